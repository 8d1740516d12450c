--DEPS 66.mrun
/-! Refusals. -/
def ax (W : qWt) (x : va_E) : qWt := (W.1, W.2.1, W.2.2.1, W.2.2.2.1, W.2.2.2.2.1, W.2.2.2.2.2 ++ [x])
theorem zM_ax {I : Nat → Nat → Int} {A : Nat → Int → Int} {W : qWt} {x : va_E} : zM I A W ++ [x] = zM I A (ax W x) := by
  unfold zM ax
  rw [List.append_assoc]
theorem t0_0 {q : Nat} {h : qH} : q_t0 0 q h = some (.inr (0, q), h) := rfl
theorem t0_1 {q : Nat} {h : qH} : q_t0 1 q h = some (.inr (1, q), h) := rfl
theorem boo_b {p : Prop} [Decidable p] {k : Int32 → qR} : q_boo true (zI (zb p)) k = k (zI (zb p)) := by
  by_cases h : p
  · rw [zb_t h]; rfl
  · rw [zb_f h]; rfl
abbrev nsc (I : Nat → Nat → Int) : Nat → Nat → Int := u2 I 2 16 (I 2 16 + 1)
abbrev ilc (I : Nat → Nat → Int) : Nat → Nat → Int := u2 I 2 17 (I 2 17 + 1)
abbrev wI (a : Int) : Prop := -2147483648 ≤ a ∧ a < 2147483648
section ND
variable {d : Nat} {I : Nat → Nat → Int} {A : Nat → Int → Int} {W : qWt} {R : zR} {F : zF} {s : Int → Int}
theorem c_need {p : Prop} [Decidable p] (hd : 1 ≤ d) (h : p) : q_call q_MT d 162 [.ref 2, .int (zI (zb p))] (zM I A W) = some (.inl none, zM I A W) := by
  obtain ⟨d, rfl⟩ : ∃ e, d = e + 1 := ⟨d - 1, by omega⟩
  rw [cl_X10_need, zb_t h]
  simp (implicitDefEqProofs := false) (disch := omega) only [↓rI_s, ↓rV_s, ↓rI_e, ↓rV_e, zc_eq, zc_ne, zc_lt, zc_ge, zc_gt, zc_le, zlt_t, zlt_f, zle_t, zle_f, zeq_t, zeq_f, lz, zadd, zsub, zmul, zneg, zb_e0, zb_e1, boo0, boo1, ua_s, ua_n, ua_ua, up_s, u2_s, u2_f, u2_c, u2_u2, Int.natCast_add, Int.zero_add, Int.add_zero, ↓reduceIte, ne_eq, not_true_eq_false, not_false_eq_true, Int.natCast_one, ↓k_X10_need_0, ↓zg_2_17, zp_2_17]
theorem c_need_f {p : Prop} [Decidable p] (hd : 1 ≤ d) (h : ¬ p) : ∃ q, q_call q_MT d 162 [.ref 2, .int (zI (zb p))] (zM I A W) = some (.inr (1, q), zM (ilc I) A (ax W (.inr (13, [])))) := by
  obtain ⟨d, rfl⟩ : ∃ e, d = e + 1 := ⟨d - 1, by omega⟩
  rw [cl_X10_need, zb_f h]
  refine ⟨List.length (zM (ilc I) A W), ?_⟩
  simp (implicitDefEqProofs := false) (disch := omega) only [↓rI_s, ↓rV_s, ↓rI_e, ↓rV_e, zc_eq, zc_ne, zc_lt, zc_ge, zc_gt, zc_le, zlt_t, zlt_f, zle_t, zle_f, zeq_t, zeq_f, lz, zadd, zsub, zmul, zneg, zb_e0, zb_e1, boo0, boo1, ua_s, ua_n, ua_ua, up_s, u2_s, u2_f, u2_c, u2_u2, Int.natCast_add, Int.zero_add, Int.add_zero, ↓reduceIte, ne_eq, not_true_eq_false, not_false_eq_true, Int.natCast_one, ↓k_X10_need_0, ↓zg_2_17, zp_2_17, zM_ax]
theorem c_needThere {n m : Int} (hd : 1 ≤ d) (h : 0 ≤ n ∧ n < m) (hm : wI n ∧ wI m) : q_call q_MT d 158 [.ref 2, .int (zI n), .int (zI m)] (zM I A W) = some (.inl none, zM I A W) := by
  obtain ⟨d, rfl⟩ : ∃ e, d = e + 1 := ⟨d - 1, by omega⟩
  rw [cl_X10_needThere]
  simp (implicitDefEqProofs := false) (disch := omega) only [↓rI_s, ↓rV_s, ↓rI_e, ↓rV_e, zc_eq, zc_ne, zc_lt, zc_ge, zc_gt, zc_le, zlt_t, zlt_f, zle_t, zle_f, zeq_t, zeq_f, lz, zadd, zsub, zmul, zneg, zb_e0, zb_e1, boo0, boo1, ua_s, ua_n, ua_ua, up_s, u2_s, u2_f, u2_c, u2_u2, Int.natCast_add, Int.zero_add, Int.add_zero, ↓reduceIte, ne_eq, not_true_eq_false, not_false_eq_true, Int.natCast_one, ↓k_X10_needThere_0, ↓k_X10_needThere_9, ↓zg_2_16, zp_2_16]
theorem c_needThere_f {n m : Int} (hd : 1 ≤ d) (h : ¬ (0 ≤ n ∧ n < m)) (hm : wI n ∧ wI m) : ∃ q, q_call q_MT d 158 [.ref 2, .int (zI n), .int (zI m)] (zM I A W) = some (.inr (0, q), zM (nsc I) A (ax W (.inr (12, [])))) := by
  obtain ⟨d, rfl⟩ : ∃ e, d = e + 1 := ⟨d - 1, by omega⟩
  rw [cl_X10_needThere]
  refine ⟨List.length (zM (nsc I) A W), ?_⟩
  by_cases q : n < 0
  · simp (implicitDefEqProofs := false) (disch := omega) only [↓rI_s, ↓rV_s, ↓rI_e, ↓rV_e, zc_eq, zc_ne, zc_lt, zc_ge, zc_gt, zc_le, zlt_t, zlt_f, zle_t, zle_f, zeq_t, zeq_f, lz, zadd, zsub, zmul, zneg, zb_e0, zb_e1, boo0, boo1, ua_s, ua_n, ua_ua, up_s, u2_s, u2_f, u2_c, u2_u2, Int.natCast_add, Int.zero_add, Int.add_zero, ↓reduceIte, ne_eq, not_true_eq_false, not_false_eq_true, Int.natCast_one, ↓k_X10_needThere_0, ↓k_X10_needThere_9, ↓zg_2_16, zp_2_16, zM_ax]
  · simp (implicitDefEqProofs := false) (disch := omega) only [↓rI_s, ↓rV_s, ↓rI_e, ↓rV_e, zc_eq, zc_ne, zc_lt, zc_ge, zc_gt, zc_le, zlt_t, zlt_f, zle_t, zle_f, zeq_t, zeq_f, lz, zadd, zsub, zmul, zneg, zb_e0, zb_e1, boo0, boo1, ua_s, ua_n, ua_ua, up_s, u2_s, u2_f, u2_c, u2_u2, Int.natCast_add, Int.zero_add, Int.add_zero, ↓reduceIte, ne_eq, not_true_eq_false, not_false_eq_true, Int.natCast_one, ↓k_X10_needThere_0, ↓k_X10_needThere_9, ↓zg_2_16, zp_2_16, zM_ax]
theorem c_needWithin {n a b : Int} (hd : 2 ≤ d) (h : a ≤ n ∧ n ≤ b) (hm : wI n ∧ wI a ∧ wI b) : q_call q_MT d 161 [.ref 2, .int (zI n), .int (zI a), .int (zI b)] (zM I A W) = some (.inl none, zM I A W) := by
  obtain ⟨d, rfl⟩ : ∃ e, d = e + 1 := ⟨d - 1, by omega⟩
  have e := c_need (p := True) (d := d) (I := I) (A := A) (W := W) (by omega) trivial
  rw [zb_t trivial] at e
  rw [cl_X10_needWithin]
  simp (implicitDefEqProofs := false) (disch := omega) only [↓rI_s, ↓rV_s, ↓rI_e, ↓rV_e, zc_eq, zc_ne, zc_lt, zc_ge, zc_gt, zc_le, zlt_t, zlt_f, zle_t, zle_f, zeq_t, zeq_f, lz, zadd, zsub, zmul, zneg, zb_e0, zb_e1, boo0, boo1, ua_s, ua_n, ua_ua, up_s, u2_s, u2_f, u2_c, u2_u2, Int.natCast_add, Int.zero_add, Int.add_zero, ↓reduceIte, ne_eq, not_true_eq_false, not_false_eq_true, Int.natCast_one, ↓k_X10_needWithin_0, ↓k_X10_needWithin_15, ↓k_X10_needWithin_16, ↓mc_2, e]
theorem c_needWithin_f {n a b : Int} (hd : 2 ≤ d) (h : ¬ (a ≤ n ∧ n ≤ b)) (hm : wI n ∧ wI a ∧ wI b) : ∃ q, q_call q_MT d 161 [.ref 2, .int (zI n), .int (zI a), .int (zI b)] (zM I A W) = some (.inr (1, q), zM (ilc I) A (ax W (.inr (13, [])))) := by
  obtain ⟨d, rfl⟩ : ∃ e, d = e + 1 := ⟨d - 1, by omega⟩
  obtain ⟨q, e⟩ := c_need_f (p := False) (d := d) (I := I) (A := A) (W := W) (by omega) id
  rw [zb_f id] at e
  refine ⟨q, ?_⟩
  rw [cl_X10_needWithin]
  by_cases q : n < a
  · simp (implicitDefEqProofs := false) (disch := omega) only [↓rI_s, ↓rV_s, ↓rI_e, ↓rV_e, zc_eq, zc_ne, zc_lt, zc_ge, zc_gt, zc_le, zlt_t, zlt_f, zle_t, zle_f, zeq_t, zeq_f, lz, zadd, zsub, zmul, zneg, zb_e0, zb_e1, boo0, boo1, ua_s, ua_n, ua_ua, up_s, u2_s, u2_f, u2_c, u2_u2, Int.natCast_add, Int.zero_add, Int.add_zero, ↓reduceIte, ne_eq, not_true_eq_false, not_false_eq_true, Int.natCast_one, ↓k_X10_needWithin_0, ↓k_X10_needWithin_15, ↓k_X10_needWithin_16, ↓mc_2, e, t0_1]
  · simp (implicitDefEqProofs := false) (disch := omega) only [↓rI_s, ↓rV_s, ↓rI_e, ↓rV_e, zc_eq, zc_ne, zc_lt, zc_ge, zc_gt, zc_le, zlt_t, zlt_f, zle_t, zle_f, zeq_t, zeq_f, lz, zadd, zsub, zmul, zneg, zb_e0, zb_e1, boo0, boo1, ua_s, ua_n, ua_ua, up_s, u2_s, u2_f, u2_c, u2_u2, Int.natCast_add, Int.zero_add, Int.add_zero, ↓reduceIte, ne_eq, not_true_eq_false, not_false_eq_true, Int.natCast_one, ↓k_X10_needWithin_0, ↓k_X10_needWithin_15, ↓k_X10_needWithin_16, ↓mc_2, e, t0_1]
theorem c_needWink {n : Int} (hd : 2 ≤ d) (hR : cR R I A) (h : 0 ≤ n ∧ n < rW R) (hm : wI n) : q_call q_MT d 156 [.ref 2, .int (zI n)] (zM I A W) = some (.inl none, zM I A W) := by
  obtain ⟨d, rfl⟩ : ∃ e, d = e + 1 := ⟨d - 1, by omega⟩
  have h1 := hR.1.1
  have h2 := hR.1.2.1
  have h3 := hR.1.2.2.1
  have e0 := hR.2.1
  have e1 := hR.2.2.1
  have e2 := hR.2.2.2.1
  rw [cl_X10_needWink]
  simp (implicitDefEqProofs := false) (disch := omega) only [↓rI_s, ↓rV_s, ↓rI_e, ↓rV_e, zc_eq, zc_ne, zc_lt, zc_ge, zc_gt, zc_le, zlt_t, zlt_f, zle_t, zle_f, zeq_t, zeq_f, lz, zadd, zsub, zmul, zneg, zb_e0, zb_e1, boo0, boo1, ua_s, ua_n, ua_ua, up_s, u2_s, u2_f, u2_c, u2_u2, Int.natCast_add, Int.zero_add, Int.add_zero, ↓reduceIte, ne_eq, not_true_eq_false, not_false_eq_true, Int.natCast_one, ↓k_X10_needWink_0, ↓zg_2_1, ↓zg_5_1, ↓zg_12_1, ↓mc_2, e1, c_needThere (show 1 ≤ d by omega) h ⟨hm, by omega⟩]
theorem c_needWink_f {n : Int} (hd : 2 ≤ d) (hR : cR R I A) (h : ¬ (0 ≤ n ∧ n < rW R)) (hm : wI n) : ∃ q, q_call q_MT d 156 [.ref 2, .int (zI n)] (zM I A W) = some (.inr (0, q), zM (nsc I) A (ax W (.inr (12, [])))) := by
  obtain ⟨d, rfl⟩ : ∃ e, d = e + 1 := ⟨d - 1, by omega⟩
  have h1 := hR.1.1
  have h2 := hR.1.2.1
  have h3 := hR.1.2.2.1
  have e0 := hR.2.1
  have e1 := hR.2.2.1
  have e2 := hR.2.2.2.1
  obtain ⟨q, e⟩ := c_needThere_f (I := I) (A := A) (W := W) (show 1 ≤ d by omega) h ⟨hm, by omega⟩
  refine ⟨q, ?_⟩
  rw [cl_X10_needWink]
  simp (implicitDefEqProofs := false) (disch := omega) only [↓rI_s, ↓rV_s, ↓rI_e, ↓rV_e, zc_eq, zc_ne, zc_lt, zc_ge, zc_gt, zc_le, zlt_t, zlt_f, zle_t, zle_f, zeq_t, zeq_f, lz, zadd, zsub, zmul, zneg, zb_e0, zb_e1, boo0, boo1, ua_s, ua_n, ua_ua, up_s, u2_s, u2_f, u2_c, u2_u2, Int.natCast_add, Int.zero_add, Int.add_zero, ↓reduceIte, ne_eq, not_true_eq_false, not_false_eq_true, Int.natCast_one, ↓k_X10_needWink_0, ↓zg_2_1, ↓zg_5_1, ↓zg_12_1, ↓mc_2, e1, e, t0_0]
theorem c_needCup {n : Int} (hd : 2 ≤ d) (hR : cR R I A) (h : 0 ≤ n ∧ n < rC R) (hm : wI n) : q_call q_MT d 157 [.ref 2, .int (zI n)] (zM I A W) = some (.inl none, zM I A W) := by
  obtain ⟨d, rfl⟩ : ∃ e, d = e + 1 := ⟨d - 1, by omega⟩
  have h1 := hR.1.1
  have h2 := hR.1.2.1
  have h3 := hR.1.2.2.1
  have e0 := hR.2.1
  have e1 := hR.2.2.1
  have e2 := hR.2.2.2.1
  rw [cl_X10_needCup]
  simp (implicitDefEqProofs := false) (disch := omega) only [↓rI_s, ↓rV_s, ↓rI_e, ↓rV_e, zc_eq, zc_ne, zc_lt, zc_ge, zc_gt, zc_le, zlt_t, zlt_f, zle_t, zle_f, zeq_t, zeq_f, lz, zadd, zsub, zmul, zneg, zb_e0, zb_e1, boo0, boo1, ua_s, ua_n, ua_ua, up_s, u2_s, u2_f, u2_c, u2_u2, Int.natCast_add, Int.zero_add, Int.add_zero, ↓reduceIte, ne_eq, not_true_eq_false, not_false_eq_true, Int.natCast_one, ↓k_X10_needCup_0, ↓zg_2_1, ↓zg_5_2, ↓zg_12_2, ↓mc_2, e2, c_needThere (show 1 ≤ d by omega) h ⟨hm, by omega⟩]
theorem c_needCup_f {n : Int} (hd : 2 ≤ d) (hR : cR R I A) (h : ¬ (0 ≤ n ∧ n < rC R)) (hm : wI n) : ∃ q, q_call q_MT d 157 [.ref 2, .int (zI n)] (zM I A W) = some (.inr (0, q), zM (nsc I) A (ax W (.inr (12, [])))) := by
  obtain ⟨d, rfl⟩ : ∃ e, d = e + 1 := ⟨d - 1, by omega⟩
  have h1 := hR.1.1
  have h2 := hR.1.2.1
  have h3 := hR.1.2.2.1
  have e0 := hR.2.1
  have e1 := hR.2.2.1
  have e2 := hR.2.2.2.1
  obtain ⟨q, e⟩ := c_needThere_f (I := I) (A := A) (W := W) (show 1 ≤ d by omega) h ⟨hm, by omega⟩
  refine ⟨q, ?_⟩
  rw [cl_X10_needCup]
  simp (implicitDefEqProofs := false) (disch := omega) only [↓rI_s, ↓rV_s, ↓rI_e, ↓rV_e, zc_eq, zc_ne, zc_lt, zc_ge, zc_gt, zc_le, zlt_t, zlt_f, zle_t, zle_f, zeq_t, zeq_f, lz, zadd, zsub, zmul, zneg, zb_e0, zb_e1, boo0, boo1, ua_s, ua_n, ua_ua, up_s, u2_s, u2_f, u2_c, u2_u2, Int.natCast_add, Int.zero_add, Int.add_zero, ↓reduceIte, ne_eq, not_true_eq_false, not_false_eq_true, Int.natCast_one, ↓k_X10_needCup_0, ↓zg_2_1, ↓zg_5_2, ↓zg_12_2, ↓mc_2, e2, e, t0_0]
theorem c_needHouse {n : Int} (hd : 2 ≤ d) (hR : cR R I A) (h : 0 ≤ n ∧ n < rH R) (hm : wI n) : q_call q_MT d 155 [.ref 2, .int (zI n)] (zM I A W) = some (.inl none, zM I A W) := by
  obtain ⟨d, rfl⟩ : ∃ e, d = e + 1 := ⟨d - 1, by omega⟩
  have h1 := hR.1.1
  have h2 := hR.1.2.1
  have h3 := hR.1.2.2.1
  have e0 := hR.2.1
  have e1 := hR.2.2.1
  have e2 := hR.2.2.2.1
  rw [cl_X10_needHouse]
  simp (implicitDefEqProofs := false) (disch := omega) only [↓rI_s, ↓rV_s, ↓rI_e, ↓rV_e, zc_eq, zc_ne, zc_lt, zc_ge, zc_gt, zc_le, zlt_t, zlt_f, zle_t, zle_f, zeq_t, zeq_f, lz, zadd, zsub, zmul, zneg, zb_e0, zb_e1, boo0, boo1, ua_s, ua_n, ua_ua, up_s, u2_s, u2_f, u2_c, u2_u2, Int.natCast_add, Int.zero_add, Int.add_zero, ↓reduceIte, ne_eq, not_true_eq_false, not_false_eq_true, Int.natCast_one, ↓k_X10_needHouse_0, ↓zg_2_1, ↓zg_5_0, ↓zg_12_0, ↓mc_2, e0, c_needThere (show 1 ≤ d by omega) h ⟨hm, by omega⟩]
theorem c_needHouse_f {n : Int} (hd : 2 ≤ d) (hR : cR R I A) (h : ¬ (0 ≤ n ∧ n < rH R)) (hm : wI n) : ∃ q, q_call q_MT d 155 [.ref 2, .int (zI n)] (zM I A W) = some (.inr (0, q), zM (nsc I) A (ax W (.inr (12, [])))) := by
  obtain ⟨d, rfl⟩ : ∃ e, d = e + 1 := ⟨d - 1, by omega⟩
  have h1 := hR.1.1
  have h2 := hR.1.2.1
  have h3 := hR.1.2.2.1
  have e0 := hR.2.1
  have e1 := hR.2.2.1
  have e2 := hR.2.2.2.1
  obtain ⟨q, e⟩ := c_needThere_f (I := I) (A := A) (W := W) (show 1 ≤ d by omega) h ⟨hm, by omega⟩
  refine ⟨q, ?_⟩
  rw [cl_X10_needHouse]
  simp (implicitDefEqProofs := false) (disch := omega) only [↓rI_s, ↓rV_s, ↓rI_e, ↓rV_e, zc_eq, zc_ne, zc_lt, zc_ge, zc_gt, zc_le, zlt_t, zlt_f, zle_t, zle_f, zeq_t, zeq_f, lz, zadd, zsub, zmul, zneg, zb_e0, zb_e1, boo0, boo1, ua_s, ua_n, ua_ua, up_s, u2_s, u2_f, u2_c, u2_u2, Int.natCast_add, Int.zero_add, Int.add_zero, ↓reduceIte, ne_eq, not_true_eq_false, not_false_eq_true, Int.natCast_one, ↓k_X10_needHouse_0, ↓zg_2_1, ↓zg_5_0, ↓zg_12_0, ↓mc_2, e0, e, t0_0]
theorem c_needPress {n : Int} (hd : 3 ≤ d) (h : 1 ≤ n ∧ n ≤ 9) : q_call q_MT d 159 [.ref 2, .int (zI n)] (zM I A W) = some (.inl none, zM I A W) := by
  obtain ⟨d, rfl⟩ : ∃ e, d = e + 1 := ⟨d - 1, by omega⟩
  rw [cl_X10_needPress]
  simp (implicitDefEqProofs := false) (disch := omega) only [↓rI_s, ↓rV_s, ↓rI_e, ↓rV_e, zc_eq, zc_ne, zc_lt, zc_ge, zc_gt, zc_le, zlt_t, zlt_f, zle_t, zle_f, zeq_t, zeq_f, lz, zadd, zsub, zmul, zneg, zb_e0, zb_e1, boo0, boo1, ua_s, ua_n, ua_ua, up_s, u2_s, u2_f, u2_c, u2_u2, Int.natCast_add, Int.zero_add, Int.add_zero, ↓reduceIte, ne_eq, not_true_eq_false, not_false_eq_true, Int.natCast_one, ↓k_X10_needPress_0, ↓mc_2, c_needWithin (show 2 ≤ d by omega) h ⟨by omega, by omega, by omega⟩]
theorem c_needPress_f {n : Int} (hd : 3 ≤ d) (h : ¬ (1 ≤ n ∧ n ≤ 9)) (hm : wI n) : ∃ q, q_call q_MT d 159 [.ref 2, .int (zI n)] (zM I A W) = some (.inr (1, q), zM (ilc I) A (ax W (.inr (13, [])))) := by
  obtain ⟨d, rfl⟩ : ∃ e, d = e + 1 := ⟨d - 1, by omega⟩
  obtain ⟨q, e⟩ := c_needWithin_f (I := I) (A := A) (W := W) (show 2 ≤ d by omega) h ⟨hm, by omega, by omega⟩
  refine ⟨q, ?_⟩
  rw [cl_X10_needPress]
  simp (implicitDefEqProofs := false) (disch := omega) only [↓rI_s, ↓rV_s, ↓rI_e, ↓rV_e, zc_eq, zc_ne, zc_lt, zc_ge, zc_gt, zc_le, zlt_t, zlt_f, zle_t, zle_f, zeq_t, zeq_f, lz, zadd, zsub, zmul, zneg, zb_e0, zb_e1, boo0, boo1, ua_s, ua_n, ua_ua, up_s, u2_s, u2_f, u2_c, u2_u2, Int.natCast_add, Int.zero_add, Int.add_zero, ↓reduceIte, ne_eq, not_true_eq_false, not_false_eq_true, Int.natCast_one, ↓k_X10_needPress_0, ↓mc_2, e, t0_1]
theorem c_needWhat {n m : Int} (hd : 3 ≤ d) (h : 0 ≤ n ∧ n ≤ m) (hm : wI m) : q_call q_MT d 160 [.ref 2, .int (zI n), .int (zI m)] (zM I A W) = some (.inl none, zM I A W) := by
  obtain ⟨d, rfl⟩ : ∃ e, d = e + 1 := ⟨d - 1, by omega⟩
  rw [cl_X10_needWhat]
  simp (implicitDefEqProofs := false) (disch := omega) only [↓rI_s, ↓rV_s, ↓rI_e, ↓rV_e, zc_eq, zc_ne, zc_lt, zc_ge, zc_gt, zc_le, zlt_t, zlt_f, zle_t, zle_f, zeq_t, zeq_f, lz, zadd, zsub, zmul, zneg, zb_e0, zb_e1, boo0, boo1, ua_s, ua_n, ua_ua, up_s, u2_s, u2_f, u2_c, u2_u2, Int.natCast_add, Int.zero_add, Int.add_zero, ↓reduceIte, ne_eq, not_true_eq_false, not_false_eq_true, Int.natCast_one, ↓k_X10_needWhat_0, ↓mc_2, c_needWithin (show 2 ≤ d by omega) h ⟨by omega, by omega, hm⟩]
theorem c_needWhat_f {n m : Int} (hd : 3 ≤ d) (h : ¬ (0 ≤ n ∧ n ≤ m)) (hn : wI n) (hm : wI m) : ∃ q, q_call q_MT d 160 [.ref 2, .int (zI n), .int (zI m)] (zM I A W) = some (.inr (1, q), zM (ilc I) A (ax W (.inr (13, [])))) := by
  obtain ⟨d, rfl⟩ : ∃ e, d = e + 1 := ⟨d - 1, by omega⟩
  obtain ⟨q, e⟩ := c_needWithin_f (I := I) (A := A) (W := W) (show 2 ≤ d by omega) h ⟨hn, by omega, hm⟩
  refine ⟨q, ?_⟩
  rw [cl_X10_needWhat]
  simp (implicitDefEqProofs := false) (disch := omega) only [↓rI_s, ↓rV_s, ↓rI_e, ↓rV_e, zc_eq, zc_ne, zc_lt, zc_ge, zc_gt, zc_le, zlt_t, zlt_f, zle_t, zle_f, zeq_t, zeq_f, lz, zadd, zsub, zmul, zneg, zb_e0, zb_e1, boo0, boo1, ua_s, ua_n, ua_ua, up_s, u2_s, u2_f, u2_c, u2_u2, Int.natCast_add, Int.zero_add, Int.add_zero, ↓reduceIte, ne_eq, not_true_eq_false, not_false_eq_true, Int.natCast_one, ↓k_X10_needWhat_0, ↓mc_2, e, t0_1]
/-! The reference's. -/
theorem m_within {h : qH} {n a b : Int} (hd : 1 ≤ d) (hm : wI n ∧ wI a ∧ wI b) : q_call q_MT d 165 [.int (zI n), .int (zI a), .int (zI b)] h = some (.inl (some (.int (zI (zb (a ≤ n ∧ n ≤ b))))), h) := by
  obtain ⟨d, rfl⟩ : ∃ e, d = e + 1 := ⟨d - 1, by omega⟩
  rw [cl_X11_within]
  by_cases q1 : n < a
  · rw [zb_f (by omega)]
    simp (implicitDefEqProofs := false) (disch := omega) only [↓rI_s, ↓rV_s, ↓rI_e, ↓rV_e, zc_eq, zc_ne, zc_lt, zc_ge, zc_gt, zc_le, zlt_t, zlt_f, zle_t, zle_f, zeq_t, zeq_f, lz, zadd, zsub, zmul, zneg, zb_e0, zb_e1, boo0, boo1, ua_s, ua_n, ua_ua, up_s, u2_s, u2_f, u2_c, u2_u2, Int.natCast_add, Int.zero_add, Int.add_zero, ↓reduceIte, ne_eq, not_true_eq_false, not_false_eq_true, Int.natCast_one, ↓k_X11_within_0, ↓k_X11_within_14, ↓k_X11_within_15]
  · by_cases q2 : b < n
    · rw [zb_f (by omega)]
      simp (implicitDefEqProofs := false) (disch := omega) only [↓rI_s, ↓rV_s, ↓rI_e, ↓rV_e, zc_eq, zc_ne, zc_lt, zc_ge, zc_gt, zc_le, zlt_t, zlt_f, zle_t, zle_f, zeq_t, zeq_f, lz, zadd, zsub, zmul, zneg, zb_e0, zb_e1, boo0, boo1, ua_s, ua_n, ua_ua, up_s, u2_s, u2_f, u2_c, u2_u2, Int.natCast_add, Int.zero_add, Int.add_zero, ↓reduceIte, ne_eq, not_true_eq_false, not_false_eq_true, Int.natCast_one, ↓k_X11_within_0, ↓k_X11_within_14, ↓k_X11_within_15]
    · rw [zb_t (by omega)]
      simp (implicitDefEqProofs := false) (disch := omega) only [↓rI_s, ↓rV_s, ↓rI_e, ↓rV_e, zc_eq, zc_ne, zc_lt, zc_ge, zc_gt, zc_le, zlt_t, zlt_f, zle_t, zle_f, zeq_t, zeq_f, lz, zadd, zsub, zmul, zneg, zb_e0, zb_e1, boo0, boo1, ua_s, ua_n, ua_ua, up_s, u2_s, u2_f, u2_c, u2_u2, Int.natCast_add, Int.zero_add, Int.add_zero, ↓reduceIte, ne_eq, not_true_eq_false, not_false_eq_true, Int.natCast_one, ↓k_X11_within_0, ↓k_X11_within_14, ↓k_X11_within_15]
theorem m_isPress {h : qH} {n : Int} (hd : 1 ≤ d) (hm : wI n) : q_call q_MT d 235 [.int (zI n)] h = some (.inl (some (.int (zI (zb (1 ≤ n ∧ n ≤ 9))))), h) := by
  obtain ⟨d, rfl⟩ : ∃ e, d = e + 1 := ⟨d - 1, by omega⟩
  rw [cl_X11_isPress]
  by_cases q1 : n < 1
  · rw [zb_f (by omega)]
    simp (implicitDefEqProofs := false) (disch := omega) only [↓rI_s, ↓rV_s, ↓rI_e, ↓rV_e, zc_eq, zc_ne, zc_lt, zc_ge, zc_gt, zc_le, zlt_t, zlt_f, zle_t, zle_f, zeq_t, zeq_f, lz, zadd, zsub, zmul, zneg, zb_e0, zb_e1, boo0, boo1, ua_s, ua_n, ua_ua, up_s, u2_s, u2_f, u2_c, u2_u2, Int.natCast_add, Int.zero_add, Int.add_zero, ↓reduceIte, ne_eq, not_true_eq_false, not_false_eq_true, Int.natCast_one, ↓k_X11_isPress_0, ↓k_X11_isPress_15, ↓k_X11_isPress_16]
  · by_cases q2 : 9 < n
    · rw [zb_f (by omega)]
      simp (implicitDefEqProofs := false) (disch := omega) only [↓rI_s, ↓rV_s, ↓rI_e, ↓rV_e, zc_eq, zc_ne, zc_lt, zc_ge, zc_gt, zc_le, zlt_t, zlt_f, zle_t, zle_f, zeq_t, zeq_f, lz, zadd, zsub, zmul, zneg, zb_e0, zb_e1, boo0, boo1, ua_s, ua_n, ua_ua, up_s, u2_s, u2_f, u2_c, u2_u2, Int.natCast_add, Int.zero_add, Int.add_zero, ↓reduceIte, ne_eq, not_true_eq_false, not_false_eq_true, Int.natCast_one, ↓k_X11_isPress_0, ↓k_X11_isPress_15, ↓k_X11_isPress_16]
    · rw [zb_t (by omega)]
      simp (implicitDefEqProofs := false) (disch := omega) only [↓rI_s, ↓rV_s, ↓rI_e, ↓rV_e, zc_eq, zc_ne, zc_lt, zc_ge, zc_gt, zc_le, zlt_t, zlt_f, zle_t, zle_f, zeq_t, zeq_f, lz, zadd, zsub, zmul, zneg, zb_e0, zb_e1, boo0, boo1, ua_s, ua_n, ua_ua, up_s, u2_s, u2_f, u2_c, u2_u2, Int.natCast_add, Int.zero_add, Int.add_zero, ↓reduceIte, ne_eq, not_true_eq_false, not_false_eq_true, Int.natCast_one, ↓k_X11_isPress_0, ↓k_X11_isPress_15, ↓k_X11_isPress_16]
abbrev mRf (A : Nat → Int → Int) (k : Int) : Nat → Int → Int := ua A 60 (up (A 60) k (A 60 k + 1))
theorem m_may {p : Prop} [Decidable p] {c k : Int} (hd : 1 ≤ d) (h : p) (h0 : I 59 0 = 0) : q_call q_MT d 164 [.ref 59, .int (zI (zb p)), .int (zI c), .int (zI k)] (zM I A W) = some (.inl (some (.int (zI 1))), zM I A W) := by
  obtain ⟨d, rfl⟩ : ∃ e, d = e + 1 := ⟨d - 1, by omega⟩
  rw [cl_X11_may, zb_t h]
  simp (implicitDefEqProofs := false) (disch := omega) only [↓rI_s, ↓rV_s, ↓rI_e, ↓rV_e, zc_eq, zc_ne, zc_lt, zc_ge, zc_gt, zc_le, zlt_t, zlt_f, zle_t, zle_f, zeq_t, zeq_f, lz, zadd, zsub, zmul, zneg, zb_e0, zb_e1, boo0, boo1, ua_s, ua_n, ua_ua, up_s, u2_s, u2_f, u2_c, u2_u2, Int.natCast_add, Int.zero_add, Int.add_zero, ↓reduceIte, ne_eq, not_true_eq_false, not_false_eq_true, Int.natCast_one, ↓k_X11_may_0, ↓k_X11_may_26, ↓k_X11_may_38, ↓zg_59_0, zp_59_0, ↓zg_59_1, zl_60, zs_60, ↓zn_60, h0]
theorem m_may_f {p : Prop} [Decidable p] {c k : Int} (hd : 1 ≤ d) (h : ¬ p) (h0 : I 59 0 = 0) (hc : c = 1 ∨ c = 2) (hk : k = 0 ∨ k = 1) : q_call q_MT d 164 [.ref 59, .int (zI (zb p)), .int (zI c), .int (zI k)] (zM I A W) = some (.inl (some (.int (zI 0))), zM (u2 I 59 0 c) (mRf A k) W) := by
  obtain ⟨d, rfl⟩ : ∃ e, d = e + 1 := ⟨d - 1, by omega⟩
  rw [cl_X11_may, zb_f h]
  simp (implicitDefEqProofs := false) (disch := omega) only [↓rI_s, ↓rV_s, ↓rI_e, ↓rV_e, zc_eq, zc_ne, zc_lt, zc_ge, zc_gt, zc_le, zlt_t, zlt_f, zle_t, zle_f, zeq_t, zeq_f, lz, zadd, zsub, zmul, zneg, zb_e0, zb_e1, boo0, boo1, ua_s, ua_n, ua_ua, up_s, u2_s, u2_f, u2_c, u2_u2, Int.natCast_add, Int.zero_add, Int.add_zero, ↓reduceIte, ne_eq, not_true_eq_false, not_false_eq_true, Int.natCast_one, ↓k_X11_may_0, ↓k_X11_may_26, ↓k_X11_may_38, ↓zg_59_0, zp_59_0, ↓zg_59_1, zl_60, zs_60, ↓zn_60, h0]
theorem m_isWink {n : Int} (hd : 2 ≤ d) (hR : mR R I A) (h : 0 ≤ n ∧ n < rW R) (hm : wI n) (h0 : I 59 0 = 0) : q_call q_MT d 230 [.ref 59, .int (zI n), .int (zI 1)] (zM I A W) = some (.inl (some (.int (zI 1))), zM I A W) := by
  obtain ⟨d, rfl⟩ : ∃ e, d = e + 1 := ⟨d - 1, by omega⟩
  have h2 := hR.1.2.1
  have e1 := hR.2.2.1
  rw [cl_X11_isWink]
  simp (implicitDefEqProofs := false) (disch := omega) only [↓rI_s, ↓rV_s, ↓rI_e, ↓rV_e, zc_eq, zc_ne, zc_lt, zc_ge, zc_gt, zc_le, zlt_t, zlt_f, zle_t, zle_f, zeq_t, zeq_f, lz, zadd, zsub, zmul, zneg, zb_e0, zb_e1, boo0, boo1, ua_s, ua_n, ua_ua, up_s, u2_s, u2_f, u2_c, u2_u2, Int.natCast_add, Int.zero_add, Int.add_zero, ↓reduceIte, ne_eq, not_true_eq_false, not_false_eq_true, Int.natCast_one, ↓k_X11_isWink_0, ↓zg_59_22, ↓mc_59, e1, m_within (show 1 ≤ d by omega) (show wI n ∧ wI 0 ∧ wI ((rW R : Int) - 1) from ⟨hm, by omega, by omega⟩), m_may (p := 0 ≤ n ∧ n ≤ (rW R : Int) - 1) (show 1 ≤ d by omega) ⟨h.1, by omega⟩ h0]
theorem m_isWink_f {n : Int} (hd : 2 ≤ d) (hR : mR R I A) (h : ¬ (0 ≤ n ∧ n < rW R)) (hm : wI n) (h0 : I 59 0 = 0) : q_call q_MT d 230 [.ref 59, .int (zI n), .int (zI 1)] (zM I A W) = some (.inl (some (.int (zI 0))), zM (u2 I 59 0 1) (mRf A 0) W) := by
  obtain ⟨d, rfl⟩ : ∃ e, d = e + 1 := ⟨d - 1, by omega⟩
  have h2 := hR.1.2.1
  have e1 := hR.2.2.1
  rw [cl_X11_isWink]
  simp (implicitDefEqProofs := false) (disch := omega) only [↓rI_s, ↓rV_s, ↓rI_e, ↓rV_e, zc_eq, zc_ne, zc_lt, zc_ge, zc_gt, zc_le, zlt_t, zlt_f, zle_t, zle_f, zeq_t, zeq_f, lz, zadd, zsub, zmul, zneg, zb_e0, zb_e1, boo0, boo1, ua_s, ua_n, ua_ua, up_s, u2_s, u2_f, u2_c, u2_u2, Int.natCast_add, Int.zero_add, Int.add_zero, ↓reduceIte, ne_eq, not_true_eq_false, not_false_eq_true, Int.natCast_one, ↓k_X11_isWink_0, ↓zg_59_22, ↓mc_59, e1, m_within (show 1 ≤ d by omega) (show wI n ∧ wI 0 ∧ wI ((rW R : Int) - 1) from ⟨hm, by omega, by omega⟩), m_may_f (p := 0 ≤ n ∧ n ≤ (rW R : Int) - 1) (c := 1) (k := 0) (show 1 ≤ d by omega) (by omega) h0 (.inl rfl) (.inl rfl)]
theorem m_isHouse {n : Int} (hd : 2 ≤ d) (hR : mR R I A) (h : 0 ≤ n ∧ n < rH R) (hm : wI n) (h0 : I 59 0 = 0) : q_call q_MT d 229 [.ref 59, .int (zI n), .int (zI 1)] (zM I A W) = some (.inl (some (.int (zI 1))), zM I A W) := by
  obtain ⟨d, rfl⟩ : ∃ e, d = e + 1 := ⟨d - 1, by omega⟩
  have h2 := hR.1.1
  have e1 := hR.2.1
  rw [cl_X11_isHouse]
  simp (implicitDefEqProofs := false) (disch := omega) only [↓rI_s, ↓rV_s, ↓rI_e, ↓rV_e, zc_eq, zc_ne, zc_lt, zc_ge, zc_gt, zc_le, zlt_t, zlt_f, zle_t, zle_f, zeq_t, zeq_f, lz, zadd, zsub, zmul, zneg, zb_e0, zb_e1, boo0, boo1, ua_s, ua_n, ua_ua, up_s, u2_s, u2_f, u2_c, u2_u2, Int.natCast_add, Int.zero_add, Int.add_zero, ↓reduceIte, ne_eq, not_true_eq_false, not_false_eq_true, Int.natCast_one, ↓k_X11_isHouse_0, ↓zg_59_21, ↓mc_59, e1, m_within (show 1 ≤ d by omega) (show wI n ∧ wI 0 ∧ wI ((rH R : Int) - 1) from ⟨hm, by omega, by omega⟩), m_may (p := 0 ≤ n ∧ n ≤ (rH R : Int) - 1) (show 1 ≤ d by omega) ⟨h.1, by omega⟩ h0]
theorem m_isHouse_f {n : Int} (hd : 2 ≤ d) (hR : mR R I A) (h : ¬ (0 ≤ n ∧ n < rH R)) (hm : wI n) (h0 : I 59 0 = 0) : q_call q_MT d 229 [.ref 59, .int (zI n), .int (zI 1)] (zM I A W) = some (.inl (some (.int (zI 0))), zM (u2 I 59 0 1) (mRf A 0) W) := by
  obtain ⟨d, rfl⟩ : ∃ e, d = e + 1 := ⟨d - 1, by omega⟩
  have h2 := hR.1.1
  have e1 := hR.2.1
  rw [cl_X11_isHouse]
  simp (implicitDefEqProofs := false) (disch := omega) only [↓rI_s, ↓rV_s, ↓rI_e, ↓rV_e, zc_eq, zc_ne, zc_lt, zc_ge, zc_gt, zc_le, zlt_t, zlt_f, zle_t, zle_f, zeq_t, zeq_f, lz, zadd, zsub, zmul, zneg, zb_e0, zb_e1, boo0, boo1, ua_s, ua_n, ua_ua, up_s, u2_s, u2_f, u2_c, u2_u2, Int.natCast_add, Int.zero_add, Int.add_zero, ↓reduceIte, ne_eq, not_true_eq_false, not_false_eq_true, Int.natCast_one, ↓k_X11_isHouse_0, ↓zg_59_21, ↓mc_59, e1, m_within (show 1 ≤ d by omega) (show wI n ∧ wI 0 ∧ wI ((rH R : Int) - 1) from ⟨hm, by omega, by omega⟩), m_may_f (p := 0 ≤ n ∧ n ≤ (rH R : Int) - 1) (c := 1) (k := 0) (show 1 ≤ d by omega) (by omega) h0 (.inl rfl) (.inl rfl)]
end ND
