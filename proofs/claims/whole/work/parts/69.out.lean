--DEPS 68.ask
/-! Answers and refusals, ready for use. -/
section SN
variable {d : Nat} {I : Nat → Nat → Int} {A : Nat → Int → Int} {W : qWt} {R : zR}
abbrev qNs (I : Nat → Nat → Int) (A : Nat → Int → Int) (W : qWt) : qR := some (.inr (0, List.length (zM (nsc I) A W)), zM (nsc I) A (ax W (.inr (12, []))))
abbrev qIl (I : Nat → Nat → Int) (A : Nat → Int → Int) (W : qWt) : qR := some (.inr (1, List.length (zM (ilc I) A W)), zM (ilc I) A (ax W (.inr (13, []))))
theorem s_need1 (hd : 1 ≤ d) : q_call q_MT d 162 [.ref 2, .int (zI 1)] (zM I A W) = some (.inl none, zM I A W) := c_need (p := True) hd trivial
theorem s_need0 (hd : 1 ≤ d) : q_call q_MT d 162 [.ref 2, .int (zI 0)] (zM I A W) = qIl I A W := by
  obtain ⟨d, rfl⟩ : ∃ e, d = e + 1 := ⟨d - 1, by omega⟩
  rw [cl_X10_need]
  simp (implicitDefEqProofs := false) (disch := omega) only [↓rI_s, ↓rV_s, ↓rI_e, ↓rV_e, zc_eq, zc_ne, zc_lt, zc_ge, zc_gt, zc_le, zlt_t, zlt_f, zle_t, zle_f, zeq_t, zeq_f, lz, zadd, zsub, zmul, zneg, zb_e0, zb_e1, boo0, boo1, ua_s, ua_n, ua_ua, up_s, u2_s, u2_f, u2_c, u2_u2, Int.natCast_add, Int.zero_add, Int.add_zero, ↓reduceIte, ne_eq, not_true_eq_false, not_false_eq_true, Int.natCast_one, ↓k_X10_need_0, ↓zg_2_17, zp_2_17, zM_ax]
theorem s_needThere {n m : Int} (hd : 1 ≤ d) (h : 0 ≤ n ∧ n < m ∧ wI n ∧ wI m) : q_call q_MT d 158 [.ref 2, .int (zI n), .int (zI m)] (zM I A W) = some (.inl none, zM I A W) := c_needThere hd ⟨h.1, h.2.1⟩ h.2.2
theorem s_needThere_f {n m : Int} (hd : 1 ≤ d) (h : ¬ (0 ≤ n ∧ n < m) ∧ wI n ∧ wI m) : q_call q_MT d 158 [.ref 2, .int (zI n), .int (zI m)] (zM I A W) = qNs I A W := by
  obtain ⟨d, rfl⟩ : ∃ e, d = e + 1 := ⟨d - 1, by omega⟩
  rw [cl_X10_needThere]
  by_cases q : n < 0
  · simp (implicitDefEqProofs := false) (disch := omega) only [↓rI_s, ↓rV_s, ↓rI_e, ↓rV_e, zc_eq, zc_ne, zc_lt, zc_ge, zc_gt, zc_le, zlt_t, zlt_f, zle_t, zle_f, zeq_t, zeq_f, lz, zadd, zsub, zmul, zneg, zb_e0, zb_e1, boo0, boo1, ua_s, ua_n, ua_ua, up_s, u2_s, u2_f, u2_c, u2_u2, Int.natCast_add, Int.zero_add, Int.add_zero, ↓reduceIte, ne_eq, not_true_eq_false, not_false_eq_true, Int.natCast_one, ↓k_X10_needThere_0, ↓k_X10_needThere_9, ↓zg_2_16, zp_2_16, zM_ax]
  · simp (implicitDefEqProofs := false) (disch := omega) only [↓rI_s, ↓rV_s, ↓rI_e, ↓rV_e, zc_eq, zc_ne, zc_lt, zc_ge, zc_gt, zc_le, zlt_t, zlt_f, zle_t, zle_f, zeq_t, zeq_f, lz, zadd, zsub, zmul, zneg, zb_e0, zb_e1, boo0, boo1, ua_s, ua_n, ua_ua, up_s, u2_s, u2_f, u2_c, u2_u2, Int.natCast_add, Int.zero_add, Int.add_zero, ↓reduceIte, ne_eq, not_true_eq_false, not_false_eq_true, Int.natCast_one, ↓k_X10_needThere_0, ↓k_X10_needThere_9, ↓zg_2_16, zp_2_16, zM_ax]
theorem s_needWithin {n a b : Int} (hd : 2 ≤ d) (h : a ≤ n ∧ n ≤ b ∧ wI n ∧ wI a ∧ wI b) : q_call q_MT d 161 [.ref 2, .int (zI n), .int (zI a), .int (zI b)] (zM I A W) = some (.inl none, zM I A W) := c_needWithin hd ⟨h.1, h.2.1⟩ h.2.2
theorem s_needWithin_f {n a b : Int} (hd : 2 ≤ d) (h : ¬ (a ≤ n ∧ n ≤ b) ∧ wI n ∧ wI a ∧ wI b) : q_call q_MT d 161 [.ref 2, .int (zI n), .int (zI a), .int (zI b)] (zM I A W) = qIl I A W := by
  obtain ⟨d, rfl⟩ : ∃ e, d = e + 1 := ⟨d - 1, by omega⟩
  rw [cl_X10_needWithin]
  by_cases q : n < a
  · simp (implicitDefEqProofs := false) (disch := omega) only [↓rI_s, ↓rV_s, ↓rI_e, ↓rV_e, zc_eq, zc_ne, zc_lt, zc_ge, zc_gt, zc_le, zlt_t, zlt_f, zle_t, zle_f, zeq_t, zeq_f, lz, zadd, zsub, zmul, zneg, zb_e0, zb_e1, boo0, boo1, ua_s, ua_n, ua_ua, up_s, u2_s, u2_f, u2_c, u2_u2, Int.natCast_add, Int.zero_add, Int.add_zero, ↓reduceIte, ne_eq, not_true_eq_false, not_false_eq_true, Int.natCast_one, ↓k_X10_needWithin_0, ↓k_X10_needWithin_15, ↓k_X10_needWithin_16, ↓mc_2, s_need0, t0_1]
  · simp (implicitDefEqProofs := false) (disch := omega) only [↓rI_s, ↓rV_s, ↓rI_e, ↓rV_e, zc_eq, zc_ne, zc_lt, zc_ge, zc_gt, zc_le, zlt_t, zlt_f, zle_t, zle_f, zeq_t, zeq_f, lz, zadd, zsub, zmul, zneg, zb_e0, zb_e1, boo0, boo1, ua_s, ua_n, ua_ua, up_s, u2_s, u2_f, u2_c, u2_u2, Int.natCast_add, Int.zero_add, Int.add_zero, ↓reduceIte, ne_eq, not_true_eq_false, not_false_eq_true, Int.natCast_one, ↓k_X10_needWithin_0, ↓k_X10_needWithin_15, ↓k_X10_needWithin_16, ↓mc_2, s_need0, t0_1]
theorem s_needWink {n : Int} (hd : 2 ≤ d) (hR : cR R I A) (h : 0 ≤ n ∧ n < rW R ∧ wI n) : q_call q_MT d 156 [.ref 2, .int (zI n)] (zM I A W) = some (.inl none, zM I A W) := c_needWink hd hR ⟨h.1, h.2.1⟩ h.2.2
theorem s_needWink_f {n : Int} (hd : 2 ≤ d) (hR : cR R I A) (h : ¬ (0 ≤ n ∧ n < rW R) ∧ wI n) : q_call q_MT d 156 [.ref 2, .int (zI n)] (zM I A W) = qNs I A W := by
  obtain ⟨d, rfl⟩ : ∃ e, d = e + 1 := ⟨d - 1, by omega⟩
  have h1 := hR.1.1
  have h2 := hR.1.2.1
  have h3 := hR.1.2.2.1
  have e0 := hR.2.1
  have e1 := hR.2.2.1
  have e2 := hR.2.2.2.1
  rw [cl_X10_needWink]
  simp (implicitDefEqProofs := false) (disch := omega) only [↓rI_s, ↓rV_s, ↓rI_e, ↓rV_e, zc_eq, zc_ne, zc_lt, zc_ge, zc_gt, zc_le, zlt_t, zlt_f, zle_t, zle_f, zeq_t, zeq_f, lz, zadd, zsub, zmul, zneg, zb_e0, zb_e1, boo0, boo1, ua_s, ua_n, ua_ua, up_s, u2_s, u2_f, u2_c, u2_u2, Int.natCast_add, Int.zero_add, Int.add_zero, ↓reduceIte, ne_eq, not_true_eq_false, not_false_eq_true, Int.natCast_one, ↓k_X10_needWink_0, ↓zg_2_1, ↓zg_5_1, ↓zg_12_1, ↓mc_2, e1, s_needThere_f, t0_0]
theorem s_needCup {n : Int} (hd : 2 ≤ d) (hR : cR R I A) (h : 0 ≤ n ∧ n < rC R ∧ wI n) : q_call q_MT d 157 [.ref 2, .int (zI n)] (zM I A W) = some (.inl none, zM I A W) := c_needCup hd hR ⟨h.1, h.2.1⟩ h.2.2
theorem s_needCup_f {n : Int} (hd : 2 ≤ d) (hR : cR R I A) (h : ¬ (0 ≤ n ∧ n < rC R) ∧ wI n) : q_call q_MT d 157 [.ref 2, .int (zI n)] (zM I A W) = qNs I A W := by
  obtain ⟨d, rfl⟩ : ∃ e, d = e + 1 := ⟨d - 1, by omega⟩
  have h1 := hR.1.1
  have h2 := hR.1.2.1
  have h3 := hR.1.2.2.1
  have e0 := hR.2.1
  have e1 := hR.2.2.1
  have e2 := hR.2.2.2.1
  rw [cl_X10_needCup]
  simp (implicitDefEqProofs := false) (disch := omega) only [↓rI_s, ↓rV_s, ↓rI_e, ↓rV_e, zc_eq, zc_ne, zc_lt, zc_ge, zc_gt, zc_le, zlt_t, zlt_f, zle_t, zle_f, zeq_t, zeq_f, lz, zadd, zsub, zmul, zneg, zb_e0, zb_e1, boo0, boo1, ua_s, ua_n, ua_ua, up_s, u2_s, u2_f, u2_c, u2_u2, Int.natCast_add, Int.zero_add, Int.add_zero, ↓reduceIte, ne_eq, not_true_eq_false, not_false_eq_true, Int.natCast_one, ↓k_X10_needCup_0, ↓zg_2_1, ↓zg_5_2, ↓zg_12_2, ↓mc_2, e2, s_needThere_f, t0_0]
theorem s_needHouse {n : Int} (hd : 2 ≤ d) (hR : cR R I A) (h : 0 ≤ n ∧ n < rH R ∧ wI n) : q_call q_MT d 155 [.ref 2, .int (zI n)] (zM I A W) = some (.inl none, zM I A W) := c_needHouse hd hR ⟨h.1, h.2.1⟩ h.2.2
theorem s_needHouse_f {n : Int} (hd : 2 ≤ d) (hR : cR R I A) (h : ¬ (0 ≤ n ∧ n < rH R) ∧ wI n) : q_call q_MT d 155 [.ref 2, .int (zI n)] (zM I A W) = qNs I A W := by
  obtain ⟨d, rfl⟩ : ∃ e, d = e + 1 := ⟨d - 1, by omega⟩
  have h1 := hR.1.1
  have h2 := hR.1.2.1
  have h3 := hR.1.2.2.1
  have e0 := hR.2.1
  have e1 := hR.2.2.1
  have e2 := hR.2.2.2.1
  rw [cl_X10_needHouse]
  simp (implicitDefEqProofs := false) (disch := omega) only [↓rI_s, ↓rV_s, ↓rI_e, ↓rV_e, zc_eq, zc_ne, zc_lt, zc_ge, zc_gt, zc_le, zlt_t, zlt_f, zle_t, zle_f, zeq_t, zeq_f, lz, zadd, zsub, zmul, zneg, zb_e0, zb_e1, boo0, boo1, ua_s, ua_n, ua_ua, up_s, u2_s, u2_f, u2_c, u2_u2, Int.natCast_add, Int.zero_add, Int.add_zero, ↓reduceIte, ne_eq, not_true_eq_false, not_false_eq_true, Int.natCast_one, ↓k_X10_needHouse_0, ↓zg_2_1, ↓zg_5_0, ↓zg_12_0, ↓mc_2, e0, s_needThere_f, t0_0]
theorem s_needPress {n : Int} (hd : 3 ≤ d) (h : 1 ≤ n ∧ n ≤ 9) : q_call q_MT d 159 [.ref 2, .int (zI n)] (zM I A W) = some (.inl none, zM I A W) := c_needPress hd h
theorem s_needPress_f {n : Int} (hd : 3 ≤ d) (h : ¬ (1 ≤ n ∧ n ≤ 9) ∧ wI n) : q_call q_MT d 159 [.ref 2, .int (zI n)] (zM I A W) = qIl I A W := by
  obtain ⟨d, rfl⟩ : ∃ e, d = e + 1 := ⟨d - 1, by omega⟩
  rw [cl_X10_needPress]
  simp (implicitDefEqProofs := false) (disch := omega) only [↓rI_s, ↓rV_s, ↓rI_e, ↓rV_e, zc_eq, zc_ne, zc_lt, zc_ge, zc_gt, zc_le, zlt_t, zlt_f, zle_t, zle_f, zeq_t, zeq_f, lz, zadd, zsub, zmul, zneg, zb_e0, zb_e1, boo0, boo1, ua_s, ua_n, ua_ua, up_s, u2_s, u2_f, u2_c, u2_u2, Int.natCast_add, Int.zero_add, Int.add_zero, ↓reduceIte, ne_eq, not_true_eq_false, not_false_eq_true, Int.natCast_one, ↓k_X10_needPress_0, ↓mc_2, s_needWithin_f, t0_1]
theorem s_needWhat {n m : Int} (hd : 3 ≤ d) (h : 0 ≤ n ∧ n ≤ m ∧ wI m) : q_call q_MT d 160 [.ref 2, .int (zI n), .int (zI m)] (zM I A W) = some (.inl none, zM I A W) := c_needWhat hd ⟨h.1, h.2.1⟩ h.2.2
theorem s_needWhat_f {n m : Int} (hd : 3 ≤ d) (h : ¬ (0 ≤ n ∧ n ≤ m) ∧ wI n ∧ wI m) : q_call q_MT d 160 [.ref 2, .int (zI n), .int (zI m)] (zM I A W) = qIl I A W := by
  obtain ⟨d, rfl⟩ : ∃ e, d = e + 1 := ⟨d - 1, by omega⟩
  rw [cl_X10_needWhat]
  simp (implicitDefEqProofs := false) (disch := omega) only [↓rI_s, ↓rV_s, ↓rI_e, ↓rV_e, zc_eq, zc_ne, zc_lt, zc_ge, zc_gt, zc_le, zlt_t, zlt_f, zle_t, zle_f, zeq_t, zeq_f, lz, zadd, zsub, zmul, zneg, zb_e0, zb_e1, boo0, boo1, ua_s, ua_n, ua_ua, up_s, u2_s, u2_f, u2_c, u2_u2, Int.natCast_add, Int.zero_add, Int.add_zero, ↓reduceIte, ne_eq, not_true_eq_false, not_false_eq_true, Int.natCast_one, ↓k_X10_needWhat_0, ↓mc_2, s_needWithin_f, t0_1]
theorem s_within {h : qH} {n a b : Int} (hd : 1 ≤ d) (q : a ≤ n ∧ n ≤ b ∧ wI n ∧ wI a ∧ wI b) : q_call q_MT d 165 [.int (zI n), .int (zI a), .int (zI b)] h = some (.inl (some (.int (zI 1))), h) := by
  rw [m_within hd q.2.2, zb_t ⟨q.1, q.2.1⟩]
theorem s_within_f {h : qH} {n a b : Int} (hd : 1 ≤ d) (q : ¬ (a ≤ n ∧ n ≤ b) ∧ wI n ∧ wI a ∧ wI b) : q_call q_MT d 165 [.int (zI n), .int (zI a), .int (zI b)] h = some (.inl (some (.int (zI 0))), h) := by
  rw [m_within hd q.2, zb_f q.1]
theorem s_isPress {h : qH} {n : Int} (hd : 1 ≤ d) (q : 1 ≤ n ∧ n ≤ 9) : q_call q_MT d 235 [.int (zI n)] h = some (.inl (some (.int (zI 1))), h) := by
  rw [m_isPress hd (by omega), zb_t q]
theorem s_isPress_f {h : qH} {n : Int} (hd : 1 ≤ d) (q : ¬ (1 ≤ n ∧ n ≤ 9) ∧ wI n) : q_call q_MT d 235 [.int (zI n)] h = some (.inl (some (.int (zI 0))), h) := by
  rw [m_isPress hd q.2, zb_f q.1]
theorem s_may1 {c k : Int} (hd : 1 ≤ d) : q_call q_MT d 164 [.ref 59, .int (zI 1), .int (zI c), .int (zI k)] (zM (u2 I 59 0 0) A W) = some (.inl (some (.int (zI 1))), zM (u2 I 59 0 0) A W) := m_may (p := True) hd trivial u2_s
theorem s_may0 {c k : Int} (hd : 1 ≤ d) (hc : (c = 1 ∨ c = 2) ∧ (k = 0 ∨ k = 1)) : q_call q_MT d 164 [.ref 59, .int (zI 0), .int (zI c), .int (zI k)] (zM (u2 I 59 0 0) A W) = some (.inl (some (.int (zI 0))), zM (u2 I 59 0 c) (mRf A k) W) := by
  have := m_may_f (p := False) (I := u2 I 59 0 0) (A := A) (W := W) hd id u2_s hc.1 hc.2
  rw [u2_u2] at this
  exact this
theorem s_isWink {n : Int} (hd : 2 ≤ d) (hR : mR R I A) (h : 0 ≤ n ∧ n < rW R ∧ wI n) : q_call q_MT d 230 [.ref 59, .int (zI n), .int (zI 1)] (zM (u2 I 59 0 0) A W) = some (.inl (some (.int (zI 1))), zM (u2 I 59 0 0) A W) := m_isWink hd (hR.fi (K := [(59, 0)]) (fi.refl.f rfl) rfl) ⟨h.1, h.2.1⟩ h.2.2 u2_s
theorem s_isWink_f {n : Int} (hd : 2 ≤ d) (hR : mR R I A) (h : ¬ (0 ≤ n ∧ n < rW R) ∧ wI n) : q_call q_MT d 230 [.ref 59, .int (zI n), .int (zI 1)] (zM (u2 I 59 0 0) A W) = some (.inl (some (.int (zI 0))), zM (u2 I 59 0 1) (mRf A 0) W) := by
  rw [m_isWink_f hd (hR.fi (K := [(59, 0)]) (fi.refl.f rfl) rfl) h.1 h.2 u2_s, u2_u2]
theorem s_isHouse {n : Int} (hd : 2 ≤ d) (hR : mR R I A) (h : 0 ≤ n ∧ n < rH R ∧ wI n) : q_call q_MT d 229 [.ref 59, .int (zI n), .int (zI 1)] (zM (u2 I 59 0 0) A W) = some (.inl (some (.int (zI 1))), zM (u2 I 59 0 0) A W) := m_isHouse hd (hR.fi (K := [(59, 0)]) (fi.refl.f rfl) rfl) ⟨h.1, h.2.1⟩ h.2.2 u2_s
theorem s_isHouse_f {n : Int} (hd : 2 ≤ d) (hR : mR R I A) (h : ¬ (0 ≤ n ∧ n < rH R) ∧ wI n) : q_call q_MT d 229 [.ref 59, .int (zI n), .int (zI 1)] (zM (u2 I 59 0 0) A W) = some (.inl (some (.int (zI 0))), zM (u2 I 59 0 1) (mRf A 0) W) := by
  rw [m_isHouse_f hd (hR.fi (K := [(59, 0)]) (fi.refl.f rfl) rfl) h.1 h.2 u2_s, u2_u2]
end SN
abbrev Kq : List (Nat × Nat) := [(30, 7), (30, 8), (36, 7), (36, 8), (36, 9), (36, 10), (45, 8), (45, 9), (45, 10), (45, 11), (45, 12), (51, 6), (51, 7), (51, 8), (51, 9), (56, 2), (56, 3), (59, 0), (59, 52), (59, 53), (59, 56), (59, 58), (59, 59)]
abbrev Lq : List Nat := [22, 23, 31, 32, 33, 34, 35, 39, 40, 46, 47, 48, 49, 50, 52, 53, 54, 55, 58, 72, 73, 77, 79, 82, 83, 84, 85, 86, 87]
/-- of these, the class's -/
abbrev Kc : List (Nat × Nat) := [(30, 7), (30, 8), (36, 7), (36, 8), (36, 9), (36, 10), (45, 8), (45, 9), (45, 10), (45, 11), (45, 12), (51, 6), (51, 7), (51, 8), (51, 9), (56, 2), (56, 3)]
abbrev Lc : List Nat := [22, 23, 31, 32, 33, 34, 35, 39, 40, 46, 47, 48, 49, 50, 52, 53, 54, 55, 58]
def axs (W : qWt) (l : List va_E) : qWt := (W.1, W.2.1, W.2.2.1, W.2.2.2.1, W.2.2.2.2.1, W.2.2.2.2.2 ++ l)
theorem axs_0 {W : qWt} : axs W [] = W := by unfold axs; rw [List.append_nil]
/-- the class's answer: 0 v, 1 no such, 2 illegal -/
def cOut (I : Nat → Nat → Int) (A : Nat → Int → Int) (W : qWt) (r : qR) (o : Nat) (v : Int) : Prop := (o = 0 ∧ ∃ I1 A1, fi Kc I I1 ∧ fr Lc A A1 ∧ r = some (.inl (some (.int (zI v))), zM I1 A1 W)) ∨ (o = 1 ∧ r = qNs I A W) ∨ (o = 2 ∧ r = qIl I A W)
/-- the reference's -/
def mOut (I : Nat → Nat → Int) (A : Nat → Int → Int) (W : qWt) (r : qR) (o : Nat) (v c2 : Int) : Prop := (o = 0 ∧ ∃ I1 A1 l, fi Kq I I1 ∧ fr Lq A A1 ∧ I1 59 0 = 0 ∧ (l = [] ∨ ∃ g, l = [.inl (3, 40, .inl g)]) ∧ r = some (.inl (some (.int (zI v))), zM I1 A1 (axs W l))) ∨ (o = 1 ∧ r = some (.inl (some (.int (zI 0))), zM (u2 I 59 0 1) (mRf A 0) W)) ∨ (o = 2 ∧ ∃ A1, fr [77] A A1 ∧ r = some (.inl (some (.int (zI 0))), zM (u2 I 59 0 c2) (mRf A1 1) W))
theorem cOut.ok {I I1 : Nat → Nat → Int} {A A1 : Nat → Int → Int} {W : qWt} {r : qR} {v : Int} (h1 : fi Kc I I1) (h2 : fr Lc A A1) (e : r = some (.inl (some (.int (zI v))), zM I1 A1 W)) : cOut I A W r 0 v := .inl ⟨rfl, I1, A1, h1, h2, e⟩
theorem cOut.ns {I : Nat → Nat → Int} {A : Nat → Int → Int} {W : qWt} {r : qR} {v : Int} (e : r = qNs I A W) : cOut I A W r 1 v := .inr (.inl ⟨rfl, e⟩)
theorem cOut.il {I : Nat → Nat → Int} {A : Nat → Int → Int} {W : qWt} {r : qR} {v : Int} (e : r = qIl I A W) : cOut I A W r 2 v := .inr (.inr ⟨rfl, e⟩)
theorem mOut.ok {I I1 : Nat → Nat → Int} {A A1 : Nat → Int → Int} {W : qWt} {r : qR} {v c2 : Int} (h1 : fi Kq I I1) (h2 : fr Lq A A1) (h0 : I1 59 0 = 0) (e : r = some (.inl (some (.int (zI v))), zM I1 A1 W)) : mOut I A W r 0 v c2 := .inl ⟨rfl, I1, A1, [], h1, h2, h0, .inl rfl, by rw [axs_0]; exact e⟩
theorem mOut.ns {I : Nat → Nat → Int} {A : Nat → Int → Int} {W : qWt} {r : qR} {v c2 : Int} (e : r = some (.inl (some (.int (zI 0))), zM (u2 I 59 0 1) (mRf A 0) W)) : mOut I A W r 1 v c2 := .inr (.inl ⟨rfl, e⟩)
theorem mOut.il {I : Nat → Nat → Int} {A A1 : Nat → Int → Int} {W : qWt} {r : qR} {v c2 : Int} (h : fr [77] A A1) (e : r = some (.inl (some (.int (zI 0))), zM (u2 I 59 0 c2) (mRf A1 1) W)) : mOut I A W r 2 v c2 := .inr (.inr ⟨rfl, A1, h, e⟩)
/-- what the class holds of room, board, law -/
def cX (R : zR) (F : zF) (s : Int → Int) (I : Nat → Nat → Int) (A : Nat → Int → Int) : Prop := cR R I A ∧ bR R s (A 25) (A 26) (A 27) (A 28) (A 29) (I 24 7) (I 24 8) ∧ sN R s ∧ cL F I A
def mX (R : zR) (F : zF) (s : Int → Int) (I : Nat → Nat → Int) (A : Nat → Int → Int) : Prop := mR R I A ∧ cpy 47 (A 76) (A 77) = s ∧ sN R s ∧ mL F I A
theorem mR.z {R : zR} {I : Nat → Nat → Int} {A : Nat → Int → Int} {g : Int → Int} (h : mR R I A) : mR R (u2 I 59 0 0) (ua A 77 g) := (h.fi (K := [(59, 0)]) (fi.refl.f rfl) rfl).fr (L := [77]) (fr.refl.a rfl) rfl
theorem mL.z {F : zF} {I : Nat → Nat → Int} {A : Nat → Int → Int} {g : Int → Int} (h : mL F I A) : mL F (u2 I 59 0 0) (ua A 77 g) := (h.fi (K := [(59, 0)]) (fi.refl.f rfl) rfl).fr (L := [77]) (fr.refl.a rfl) rfl
