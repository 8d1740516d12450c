--DEPS 61.cmut2
/-! The reference changes its row. -/
def cpy (n : Nat) (f g : Int → Int) (i : Int) : Int := if 0 ≤ i ∧ i < n then f i else g i
theorem cpy_0 {f g : Int → Int} : cpy 0 f g = g := funext fun i => if_neg (by omega)
theorem cpy_s {f g : Int → Int} {j : Nat} : up (cpy j f g) j (f j) = cpy (j + 1) f g := by
  funext i
  unfold up cpy
  by_cases e : i = j
  · subst e; rw [if_pos rfl, if_pos (by omega)]
  · rw [if_neg e]
    by_cases q : 0 ≤ i ∧ i < (j : Int)
    · rw [if_pos q, if_pos (by omega)]
    · rw [if_neg q, if_neg (by omega)]
theorem cpy_t {n : Nat} {f g : Int → Int} {i : Int} (h0 : 0 ≤ i) (h1 : i < n) : cpy n f g i = f i := if_pos ⟨h0, h1⟩
theorem over_b' {R : zR} {s : Int → Int} {w : Int} (hR : wR R) (hs : sP R s) (h0 : 0 ≤ w) (h1 : w < rW R) : -1010 ≤ over R s w ∧ over R s w ≤ 10 := by
  have := hs w h0 h1
  have m0 := many_lo R s (s w)
  have m1 := many_hi R s (s w)
  have := hR.2.1
  unfold over
  split <;> omega
section MM
variable {d : Nat} {I : Nat → Nat → Int} {A : Nat → Int → Int} {W : qWt} {R : zR} {F : zF} {kx : Nat → Nat → qH → qR} {k : Int32 → qH → qR}
theorem m_copies_62_65 {n : Nat} (hd : 1 ≤ d) (hn : n ≤ 5) : q_call q_MT d 182 [.ref 59, .ref 62, .ref 65, .int (zI n)] (zM I A W) = some (.inl none, zM I (ua A 65 (cpy n (A 62) (A 65))) W) := by
  obtain ⟨d, rfl⟩ : ∃ e, d = e + 1 := ⟨d - 1, by omega⟩
  rw [cl_X11_copies]
  simp (implicitDefEqProofs := false) (disch := omega) only [↓rI_s, ↓rV_s, ↓rI_e, ↓rV_e, zc_eq, zc_ne, zc_lt, zc_ge, zc_gt, zc_le, zlt_t, zlt_f, zle_t, zle_f, zeq_t, zeq_f, lz, zadd, zsub, zmul, zneg, zb_e0, zb_e1, boo0, boo1, ua_s, ua_n, ua_ua, up_s, u2_s, u2_f, u2_c, u2_u2, Int.natCast_add, Int.zero_add, Int.add_zero, ↓reduceIte, ne_eq, not_true_eq_false, not_false_eq_true, Int.natCast_one, ↓k_X11_copies_0]
  have hid : ua A 65 (cpy 0 (A 62) (A 65)) = A := by rw [cpy_0]; exact ua_id
  conv => lhs; rw [← hid]
  refine lp_x (fun j (g : Unit) => q_run qm_X11_copies (q_call q_MT d) 3 [.ref 59, .ref 62, .ref 65, .int (zI n), .int (zI j)] [] (zM I (ua A 65 (cpy j (A 62) (A 65))) W)) (fun j g => True) (fun r => r = _) n ?_ ?_ 0 () (by omega) trivial
  · intro _ _
    rw [k_X11_copies_3]
    simp (implicitDefEqProofs := false) (disch := omega) only [↓rI_s, ↓rV_s, ↓rI_e, ↓rV_e, zc_eq, zc_ne, zc_lt, zc_ge, zc_gt, zc_le, zlt_t, zlt_f, zle_t, zle_f, zeq_t, zeq_f, lz, zadd, zsub, zmul, zneg, zb_e0, zb_e1, boo0, boo1, ua_s, ua_n, ua_ua, up_s, u2_s, u2_f, u2_c, u2_u2, Int.natCast_add, Int.zero_add, Int.add_zero, ↓reduceIte, ne_eq, not_true_eq_false, not_false_eq_true, Int.natCast_one, Int.le_refl]
  · intro j _ hj _
    refine .inr ⟨(), trivial, ?_⟩
    rw [k_X11_copies_3]
    simp (implicitDefEqProofs := false) (disch := omega) only [↓rI_s, ↓rV_s, ↓rI_e, ↓rV_e, zc_eq, zc_ne, zc_lt, zc_ge, zc_gt, zc_le, zlt_t, zlt_f, zle_t, zle_f, zeq_t, zeq_f, lz, zadd, zsub, zmul, zneg, zb_e0, zb_e1, boo0, boo1, ua_s, ua_n, ua_ua, up_s, u2_s, u2_f, u2_c, u2_u2, Int.natCast_add, Int.zero_add, Int.add_zero, ↓reduceIte, ne_eq, not_true_eq_false, not_false_eq_true, Int.natCast_one, zl_62, zs_65, cpy_s]
theorem m_copies_63_66 {n : Nat} (hd : 1 ≤ d) (hn : n ≤ 30) : q_call q_MT d 182 [.ref 59, .ref 63, .ref 66, .int (zI n)] (zM I A W) = some (.inl none, zM I (ua A 66 (cpy n (A 63) (A 66))) W) := by
  obtain ⟨d, rfl⟩ : ∃ e, d = e + 1 := ⟨d - 1, by omega⟩
  rw [cl_X11_copies]
  simp (implicitDefEqProofs := false) (disch := omega) only [↓rI_s, ↓rV_s, ↓rI_e, ↓rV_e, zc_eq, zc_ne, zc_lt, zc_ge, zc_gt, zc_le, zlt_t, zlt_f, zle_t, zle_f, zeq_t, zeq_f, lz, zadd, zsub, zmul, zneg, zb_e0, zb_e1, boo0, boo1, ua_s, ua_n, ua_ua, up_s, u2_s, u2_f, u2_c, u2_u2, Int.natCast_add, Int.zero_add, Int.add_zero, ↓reduceIte, ne_eq, not_true_eq_false, not_false_eq_true, Int.natCast_one, ↓k_X11_copies_0]
  have hid : ua A 66 (cpy 0 (A 63) (A 66)) = A := by rw [cpy_0]; exact ua_id
  conv => lhs; rw [← hid]
  refine lp_x (fun j (g : Unit) => q_run qm_X11_copies (q_call q_MT d) 3 [.ref 59, .ref 63, .ref 66, .int (zI n), .int (zI j)] [] (zM I (ua A 66 (cpy j (A 63) (A 66))) W)) (fun j g => True) (fun r => r = _) n ?_ ?_ 0 () (by omega) trivial
  · intro _ _
    rw [k_X11_copies_3]
    simp (implicitDefEqProofs := false) (disch := omega) only [↓rI_s, ↓rV_s, ↓rI_e, ↓rV_e, zc_eq, zc_ne, zc_lt, zc_ge, zc_gt, zc_le, zlt_t, zlt_f, zle_t, zle_f, zeq_t, zeq_f, lz, zadd, zsub, zmul, zneg, zb_e0, zb_e1, boo0, boo1, ua_s, ua_n, ua_ua, up_s, u2_s, u2_f, u2_c, u2_u2, Int.natCast_add, Int.zero_add, Int.add_zero, ↓reduceIte, ne_eq, not_true_eq_false, not_false_eq_true, Int.natCast_one, Int.le_refl]
  · intro j _ hj _
    refine .inr ⟨(), trivial, ?_⟩
    rw [k_X11_copies_3]
    simp (implicitDefEqProofs := false) (disch := omega) only [↓rI_s, ↓rV_s, ↓rI_e, ↓rV_e, zc_eq, zc_ne, zc_lt, zc_ge, zc_gt, zc_le, zlt_t, zlt_f, zle_t, zle_f, zeq_t, zeq_f, lz, zadd, zsub, zmul, zneg, zb_e0, zb_e1, boo0, boo1, ua_s, ua_n, ua_ua, up_s, u2_s, u2_f, u2_c, u2_u2, Int.natCast_add, Int.zero_add, Int.add_zero, ↓reduceIte, ne_eq, not_true_eq_false, not_false_eq_true, Int.natCast_one, zl_63, zs_66, cpy_s]
theorem m_copies_64_67 {n : Nat} (hd : 1 ≤ d) (hn : n ≤ 8) : q_call q_MT d 182 [.ref 59, .ref 64, .ref 67, .int (zI n)] (zM I A W) = some (.inl none, zM I (ua A 67 (cpy n (A 64) (A 67))) W) := by
  obtain ⟨d, rfl⟩ : ∃ e, d = e + 1 := ⟨d - 1, by omega⟩
  rw [cl_X11_copies]
  simp (implicitDefEqProofs := false) (disch := omega) only [↓rI_s, ↓rV_s, ↓rI_e, ↓rV_e, zc_eq, zc_ne, zc_lt, zc_ge, zc_gt, zc_le, zlt_t, zlt_f, zle_t, zle_f, zeq_t, zeq_f, lz, zadd, zsub, zmul, zneg, zb_e0, zb_e1, boo0, boo1, ua_s, ua_n, ua_ua, up_s, u2_s, u2_f, u2_c, u2_u2, Int.natCast_add, Int.zero_add, Int.add_zero, ↓reduceIte, ne_eq, not_true_eq_false, not_false_eq_true, Int.natCast_one, ↓k_X11_copies_0]
  have hid : ua A 67 (cpy 0 (A 64) (A 67)) = A := by rw [cpy_0]; exact ua_id
  conv => lhs; rw [← hid]
  refine lp_x (fun j (g : Unit) => q_run qm_X11_copies (q_call q_MT d) 3 [.ref 59, .ref 64, .ref 67, .int (zI n), .int (zI j)] [] (zM I (ua A 67 (cpy j (A 64) (A 67))) W)) (fun j g => True) (fun r => r = _) n ?_ ?_ 0 () (by omega) trivial
  · intro _ _
    rw [k_X11_copies_3]
    simp (implicitDefEqProofs := false) (disch := omega) only [↓rI_s, ↓rV_s, ↓rI_e, ↓rV_e, zc_eq, zc_ne, zc_lt, zc_ge, zc_gt, zc_le, zlt_t, zlt_f, zle_t, zle_f, zeq_t, zeq_f, lz, zadd, zsub, zmul, zneg, zb_e0, zb_e1, boo0, boo1, ua_s, ua_n, ua_ua, up_s, u2_s, u2_f, u2_c, u2_u2, Int.natCast_add, Int.zero_add, Int.add_zero, ↓reduceIte, ne_eq, not_true_eq_false, not_false_eq_true, Int.natCast_one, Int.le_refl]
  · intro j _ hj _
    refine .inr ⟨(), trivial, ?_⟩
    rw [k_X11_copies_3]
    simp (implicitDefEqProofs := false) (disch := omega) only [↓rI_s, ↓rV_s, ↓rI_e, ↓rV_e, zc_eq, zc_ne, zc_lt, zc_ge, zc_gt, zc_le, zlt_t, zlt_f, zle_t, zle_f, zeq_t, zeq_f, lz, zadd, zsub, zmul, zneg, zb_e0, zb_e1, boo0, boo1, ua_s, ua_n, ua_ua, up_s, u2_s, u2_f, u2_c, u2_u2, Int.natCast_add, Int.zero_add, Int.add_zero, ↓reduceIte, ne_eq, not_true_eq_false, not_false_eq_true, Int.natCast_one, zl_64, zs_67, cpy_s]
theorem m_copies_68_70 {n : Nat} (hd : 1 ≤ d) (hn : n ≤ 150) : q_call q_MT d 182 [.ref 59, .ref 68, .ref 70, .int (zI n)] (zM I A W) = some (.inl none, zM I (ua A 70 (cpy n (A 68) (A 70))) W) := by
  obtain ⟨d, rfl⟩ : ∃ e, d = e + 1 := ⟨d - 1, by omega⟩
  rw [cl_X11_copies]
  simp (implicitDefEqProofs := false) (disch := omega) only [↓rI_s, ↓rV_s, ↓rI_e, ↓rV_e, zc_eq, zc_ne, zc_lt, zc_ge, zc_gt, zc_le, zlt_t, zlt_f, zle_t, zle_f, zeq_t, zeq_f, lz, zadd, zsub, zmul, zneg, zb_e0, zb_e1, boo0, boo1, ua_s, ua_n, ua_ua, up_s, u2_s, u2_f, u2_c, u2_u2, Int.natCast_add, Int.zero_add, Int.add_zero, ↓reduceIte, ne_eq, not_true_eq_false, not_false_eq_true, Int.natCast_one, ↓k_X11_copies_0]
  have hid : ua A 70 (cpy 0 (A 68) (A 70)) = A := by rw [cpy_0]; exact ua_id
  conv => lhs; rw [← hid]
  refine lp_x (fun j (g : Unit) => q_run qm_X11_copies (q_call q_MT d) 3 [.ref 59, .ref 68, .ref 70, .int (zI n), .int (zI j)] [] (zM I (ua A 70 (cpy j (A 68) (A 70))) W)) (fun j g => True) (fun r => r = _) n ?_ ?_ 0 () (by omega) trivial
  · intro _ _
    rw [k_X11_copies_3]
    simp (implicitDefEqProofs := false) (disch := omega) only [↓rI_s, ↓rV_s, ↓rI_e, ↓rV_e, zc_eq, zc_ne, zc_lt, zc_ge, zc_gt, zc_le, zlt_t, zlt_f, zle_t, zle_f, zeq_t, zeq_f, lz, zadd, zsub, zmul, zneg, zb_e0, zb_e1, boo0, boo1, ua_s, ua_n, ua_ua, up_s, u2_s, u2_f, u2_c, u2_u2, Int.natCast_add, Int.zero_add, Int.add_zero, ↓reduceIte, ne_eq, not_true_eq_false, not_false_eq_true, Int.natCast_one, Int.le_refl]
  · intro j _ hj _
    refine .inr ⟨(), trivial, ?_⟩
    rw [k_X11_copies_3]
    simp (implicitDefEqProofs := false) (disch := omega) only [↓rI_s, ↓rV_s, ↓rI_e, ↓rV_e, zc_eq, zc_ne, zc_lt, zc_ge, zc_gt, zc_le, zlt_t, zlt_f, zle_t, zle_f, zeq_t, zeq_f, lz, zadd, zsub, zmul, zneg, zb_e0, zb_e1, boo0, boo1, ua_s, ua_n, ua_ua, up_s, u2_s, u2_f, u2_c, u2_u2, Int.natCast_add, Int.zero_add, Int.add_zero, ↓reduceIte, ne_eq, not_true_eq_false, not_false_eq_true, Int.natCast_one, zl_68, zs_70, cpy_s]
theorem m_copies_69_71 {n : Nat} (hd : 1 ≤ d) (hn : n ≤ 150) : q_call q_MT d 182 [.ref 59, .ref 69, .ref 71, .int (zI n)] (zM I A W) = some (.inl none, zM I (ua A 71 (cpy n (A 69) (A 71))) W) := by
  obtain ⟨d, rfl⟩ : ∃ e, d = e + 1 := ⟨d - 1, by omega⟩
  rw [cl_X11_copies]
  simp (implicitDefEqProofs := false) (disch := omega) only [↓rI_s, ↓rV_s, ↓rI_e, ↓rV_e, zc_eq, zc_ne, zc_lt, zc_ge, zc_gt, zc_le, zlt_t, zlt_f, zle_t, zle_f, zeq_t, zeq_f, lz, zadd, zsub, zmul, zneg, zb_e0, zb_e1, boo0, boo1, ua_s, ua_n, ua_ua, up_s, u2_s, u2_f, u2_c, u2_u2, Int.natCast_add, Int.zero_add, Int.add_zero, ↓reduceIte, ne_eq, not_true_eq_false, not_false_eq_true, Int.natCast_one, ↓k_X11_copies_0]
  have hid : ua A 71 (cpy 0 (A 69) (A 71)) = A := by rw [cpy_0]; exact ua_id
  conv => lhs; rw [← hid]
  refine lp_x (fun j (g : Unit) => q_run qm_X11_copies (q_call q_MT d) 3 [.ref 59, .ref 69, .ref 71, .int (zI n), .int (zI j)] [] (zM I (ua A 71 (cpy j (A 69) (A 71))) W)) (fun j g => True) (fun r => r = _) n ?_ ?_ 0 () (by omega) trivial
  · intro _ _
    rw [k_X11_copies_3]
    simp (implicitDefEqProofs := false) (disch := omega) only [↓rI_s, ↓rV_s, ↓rI_e, ↓rV_e, zc_eq, zc_ne, zc_lt, zc_ge, zc_gt, zc_le, zlt_t, zlt_f, zle_t, zle_f, zeq_t, zeq_f, lz, zadd, zsub, zmul, zneg, zb_e0, zb_e1, boo0, boo1, ua_s, ua_n, ua_ua, up_s, u2_s, u2_f, u2_c, u2_u2, Int.natCast_add, Int.zero_add, Int.add_zero, ↓reduceIte, ne_eq, not_true_eq_false, not_false_eq_true, Int.natCast_one, Int.le_refl]
  · intro j _ hj _
    refine .inr ⟨(), trivial, ?_⟩
    rw [k_X11_copies_3]
    simp (implicitDefEqProofs := false) (disch := omega) only [↓rI_s, ↓rV_s, ↓rI_e, ↓rV_e, zc_eq, zc_ne, zc_lt, zc_ge, zc_gt, zc_le, zlt_t, zlt_f, zle_t, zle_f, zeq_t, zeq_f, lz, zadd, zsub, zmul, zneg, zb_e0, zb_e1, boo0, boo1, ua_s, ua_n, ua_ua, up_s, u2_s, u2_f, u2_c, u2_u2, Int.natCast_add, Int.zero_add, Int.add_zero, ↓reduceIte, ne_eq, not_true_eq_false, not_false_eq_true, Int.natCast_one, zl_69, zs_71, cpy_s]
theorem m_copies_74_75 {n : Nat} (hd : 1 ≤ d) (hn : n ≤ 150) : q_call q_MT d 182 [.ref 59, .ref 74, .ref 75, .int (zI n)] (zM I A W) = some (.inl none, zM I (ua A 75 (cpy n (A 74) (A 75))) W) := by
  obtain ⟨d, rfl⟩ : ∃ e, d = e + 1 := ⟨d - 1, by omega⟩
  rw [cl_X11_copies]
  simp (implicitDefEqProofs := false) (disch := omega) only [↓rI_s, ↓rV_s, ↓rI_e, ↓rV_e, zc_eq, zc_ne, zc_lt, zc_ge, zc_gt, zc_le, zlt_t, zlt_f, zle_t, zle_f, zeq_t, zeq_f, lz, zadd, zsub, zmul, zneg, zb_e0, zb_e1, boo0, boo1, ua_s, ua_n, ua_ua, up_s, u2_s, u2_f, u2_c, u2_u2, Int.natCast_add, Int.zero_add, Int.add_zero, ↓reduceIte, ne_eq, not_true_eq_false, not_false_eq_true, Int.natCast_one, ↓k_X11_copies_0]
  have hid : ua A 75 (cpy 0 (A 74) (A 75)) = A := by rw [cpy_0]; exact ua_id
  conv => lhs; rw [← hid]
  refine lp_x (fun j (g : Unit) => q_run qm_X11_copies (q_call q_MT d) 3 [.ref 59, .ref 74, .ref 75, .int (zI n), .int (zI j)] [] (zM I (ua A 75 (cpy j (A 74) (A 75))) W)) (fun j g => True) (fun r => r = _) n ?_ ?_ 0 () (by omega) trivial
  · intro _ _
    rw [k_X11_copies_3]
    simp (implicitDefEqProofs := false) (disch := omega) only [↓rI_s, ↓rV_s, ↓rI_e, ↓rV_e, zc_eq, zc_ne, zc_lt, zc_ge, zc_gt, zc_le, zlt_t, zlt_f, zle_t, zle_f, zeq_t, zeq_f, lz, zadd, zsub, zmul, zneg, zb_e0, zb_e1, boo0, boo1, ua_s, ua_n, ua_ua, up_s, u2_s, u2_f, u2_c, u2_u2, Int.natCast_add, Int.zero_add, Int.add_zero, ↓reduceIte, ne_eq, not_true_eq_false, not_false_eq_true, Int.natCast_one, Int.le_refl]
  · intro j _ hj _
    refine .inr ⟨(), trivial, ?_⟩
    rw [k_X11_copies_3]
    simp (implicitDefEqProofs := false) (disch := omega) only [↓rI_s, ↓rV_s, ↓rI_e, ↓rV_e, zc_eq, zc_ne, zc_lt, zc_ge, zc_gt, zc_le, zlt_t, zlt_f, zle_t, zle_f, zeq_t, zeq_f, lz, zadd, zsub, zmul, zneg, zb_e0, zb_e1, boo0, boo1, ua_s, ua_n, ua_ua, up_s, u2_s, u2_f, u2_c, u2_u2, Int.natCast_add, Int.zero_add, Int.add_zero, ↓reduceIte, ne_eq, not_true_eq_false, not_false_eq_true, Int.natCast_one, zl_74, zs_75, cpy_s]
theorem m_copies_76_77 {n : Nat} (hd : 1 ≤ d) (hn : n ≤ 47) : q_call q_MT d 182 [.ref 59, .ref 76, .ref 77, .int (zI n)] (zM I A W) = some (.inl none, zM I (ua A 77 (cpy n (A 76) (A 77))) W) := by
  obtain ⟨d, rfl⟩ : ∃ e, d = e + 1 := ⟨d - 1, by omega⟩
  rw [cl_X11_copies]
  simp (implicitDefEqProofs := false) (disch := omega) only [↓rI_s, ↓rV_s, ↓rI_e, ↓rV_e, zc_eq, zc_ne, zc_lt, zc_ge, zc_gt, zc_le, zlt_t, zlt_f, zle_t, zle_f, zeq_t, zeq_f, lz, zadd, zsub, zmul, zneg, zb_e0, zb_e1, boo0, boo1, ua_s, ua_n, ua_ua, up_s, u2_s, u2_f, u2_c, u2_u2, Int.natCast_add, Int.zero_add, Int.add_zero, ↓reduceIte, ne_eq, not_true_eq_false, not_false_eq_true, Int.natCast_one, ↓k_X11_copies_0]
  have hid : ua A 77 (cpy 0 (A 76) (A 77)) = A := by rw [cpy_0]; exact ua_id
  conv => lhs; rw [← hid]
  refine lp_x (fun j (g : Unit) => q_run qm_X11_copies (q_call q_MT d) 3 [.ref 59, .ref 76, .ref 77, .int (zI n), .int (zI j)] [] (zM I (ua A 77 (cpy j (A 76) (A 77))) W)) (fun j g => True) (fun r => r = _) n ?_ ?_ 0 () (by omega) trivial
  · intro _ _
    rw [k_X11_copies_3]
    simp (implicitDefEqProofs := false) (disch := omega) only [↓rI_s, ↓rV_s, ↓rI_e, ↓rV_e, zc_eq, zc_ne, zc_lt, zc_ge, zc_gt, zc_le, zlt_t, zlt_f, zle_t, zle_f, zeq_t, zeq_f, lz, zadd, zsub, zmul, zneg, zb_e0, zb_e1, boo0, boo1, ua_s, ua_n, ua_ua, up_s, u2_s, u2_f, u2_c, u2_u2, Int.natCast_add, Int.zero_add, Int.add_zero, ↓reduceIte, ne_eq, not_true_eq_false, not_false_eq_true, Int.natCast_one, Int.le_refl]
  · intro j _ hj _
    refine .inr ⟨(), trivial, ?_⟩
    rw [k_X11_copies_3]
    simp (implicitDefEqProofs := false) (disch := omega) only [↓rI_s, ↓rV_s, ↓rI_e, ↓rV_e, zc_eq, zc_ne, zc_lt, zc_ge, zc_gt, zc_le, zlt_t, zlt_f, zle_t, zle_f, zeq_t, zeq_f, lz, zadd, zsub, zmul, zneg, zb_e0, zb_e1, boo0, boo1, ua_s, ua_n, ua_ua, up_s, u2_s, u2_f, u2_c, u2_u2, Int.natCast_add, Int.zero_add, Int.add_zero, ↓reduceIte, ne_eq, not_true_eq_false, not_false_eq_true, Int.natCast_one, zl_76, zs_77, cpy_s]
theorem m_copies_77_76 {n : Nat} (hd : 1 ≤ d) (hn : n ≤ 47) : q_call q_MT d 182 [.ref 59, .ref 77, .ref 76, .int (zI n)] (zM I A W) = some (.inl none, zM I (ua A 76 (cpy n (A 77) (A 76))) W) := by
  obtain ⟨d, rfl⟩ : ∃ e, d = e + 1 := ⟨d - 1, by omega⟩
  rw [cl_X11_copies]
  simp (implicitDefEqProofs := false) (disch := omega) only [↓rI_s, ↓rV_s, ↓rI_e, ↓rV_e, zc_eq, zc_ne, zc_lt, zc_ge, zc_gt, zc_le, zlt_t, zlt_f, zle_t, zle_f, zeq_t, zeq_f, lz, zadd, zsub, zmul, zneg, zb_e0, zb_e1, boo0, boo1, ua_s, ua_n, ua_ua, up_s, u2_s, u2_f, u2_c, u2_u2, Int.natCast_add, Int.zero_add, Int.add_zero, ↓reduceIte, ne_eq, not_true_eq_false, not_false_eq_true, Int.natCast_one, ↓k_X11_copies_0]
  have hid : ua A 76 (cpy 0 (A 77) (A 76)) = A := by rw [cpy_0]; exact ua_id
  conv => lhs; rw [← hid]
  refine lp_x (fun j (g : Unit) => q_run qm_X11_copies (q_call q_MT d) 3 [.ref 59, .ref 77, .ref 76, .int (zI n), .int (zI j)] [] (zM I (ua A 76 (cpy j (A 77) (A 76))) W)) (fun j g => True) (fun r => r = _) n ?_ ?_ 0 () (by omega) trivial
  · intro _ _
    rw [k_X11_copies_3]
    simp (implicitDefEqProofs := false) (disch := omega) only [↓rI_s, ↓rV_s, ↓rI_e, ↓rV_e, zc_eq, zc_ne, zc_lt, zc_ge, zc_gt, zc_le, zlt_t, zlt_f, zle_t, zle_f, zeq_t, zeq_f, lz, zadd, zsub, zmul, zneg, zb_e0, zb_e1, boo0, boo1, ua_s, ua_n, ua_ua, up_s, u2_s, u2_f, u2_c, u2_u2, Int.natCast_add, Int.zero_add, Int.add_zero, ↓reduceIte, ne_eq, not_true_eq_false, not_false_eq_true, Int.natCast_one, Int.le_refl]
  · intro j _ hj _
    refine .inr ⟨(), trivial, ?_⟩
    rw [k_X11_copies_3]
    simp (implicitDefEqProofs := false) (disch := omega) only [↓rI_s, ↓rV_s, ↓rI_e, ↓rV_e, zc_eq, zc_ne, zc_lt, zc_ge, zc_gt, zc_le, zlt_t, zlt_f, zle_t, zle_f, zeq_t, zeq_f, lz, zadd, zsub, zmul, zneg, zb_e0, zb_e1, boo0, boo1, ua_s, ua_n, ua_ua, up_s, u2_s, u2_f, u2_c, u2_u2, Int.natCast_add, Int.zero_add, Int.add_zero, ↓reduceIte, ne_eq, not_true_eq_false, not_false_eq_true, Int.natCast_one, zl_77, zs_76, cpy_s]
theorem m_copies_80_81 {n : Nat} (hd : 1 ≤ d) (hn : n ≤ 9) : q_call q_MT d 182 [.ref 59, .ref 80, .ref 81, .int (zI n)] (zM I A W) = some (.inl none, zM I (ua A 81 (cpy n (A 80) (A 81))) W) := by
  obtain ⟨d, rfl⟩ : ∃ e, d = e + 1 := ⟨d - 1, by omega⟩
  rw [cl_X11_copies]
  simp (implicitDefEqProofs := false) (disch := omega) only [↓rI_s, ↓rV_s, ↓rI_e, ↓rV_e, zc_eq, zc_ne, zc_lt, zc_ge, zc_gt, zc_le, zlt_t, zlt_f, zle_t, zle_f, zeq_t, zeq_f, lz, zadd, zsub, zmul, zneg, zb_e0, zb_e1, boo0, boo1, ua_s, ua_n, ua_ua, up_s, u2_s, u2_f, u2_c, u2_u2, Int.natCast_add, Int.zero_add, Int.add_zero, ↓reduceIte, ne_eq, not_true_eq_false, not_false_eq_true, Int.natCast_one, ↓k_X11_copies_0]
  have hid : ua A 81 (cpy 0 (A 80) (A 81)) = A := by rw [cpy_0]; exact ua_id
  conv => lhs; rw [← hid]
  refine lp_x (fun j (g : Unit) => q_run qm_X11_copies (q_call q_MT d) 3 [.ref 59, .ref 80, .ref 81, .int (zI n), .int (zI j)] [] (zM I (ua A 81 (cpy j (A 80) (A 81))) W)) (fun j g => True) (fun r => r = _) n ?_ ?_ 0 () (by omega) trivial
  · intro _ _
    rw [k_X11_copies_3]
    simp (implicitDefEqProofs := false) (disch := omega) only [↓rI_s, ↓rV_s, ↓rI_e, ↓rV_e, zc_eq, zc_ne, zc_lt, zc_ge, zc_gt, zc_le, zlt_t, zlt_f, zle_t, zle_f, zeq_t, zeq_f, lz, zadd, zsub, zmul, zneg, zb_e0, zb_e1, boo0, boo1, ua_s, ua_n, ua_ua, up_s, u2_s, u2_f, u2_c, u2_u2, Int.natCast_add, Int.zero_add, Int.add_zero, ↓reduceIte, ne_eq, not_true_eq_false, not_false_eq_true, Int.natCast_one, Int.le_refl]
  · intro j _ hj _
    refine .inr ⟨(), trivial, ?_⟩
    rw [k_X11_copies_3]
    simp (implicitDefEqProofs := false) (disch := omega) only [↓rI_s, ↓rV_s, ↓rI_e, ↓rV_e, zc_eq, zc_ne, zc_lt, zc_ge, zc_gt, zc_le, zlt_t, zlt_f, zle_t, zle_f, zeq_t, zeq_f, lz, zadd, zsub, zmul, zneg, zb_e0, zb_e1, boo0, boo1, ua_s, ua_n, ua_ua, up_s, u2_s, u2_f, u2_c, u2_u2, Int.natCast_add, Int.zero_add, Int.add_zero, ↓reduceIte, ne_eq, not_true_eq_false, not_false_eq_true, Int.natCast_one, zl_80, zs_81, cpy_s]
theorem m_copies_85_86 {n : Nat} (hd : 1 ≤ d) (hn : n ≤ 4) : q_call q_MT d 182 [.ref 59, .ref 85, .ref 86, .int (zI n)] (zM I A W) = some (.inl none, zM I (ua A 86 (cpy n (A 85) (A 86))) W) := by
  obtain ⟨d, rfl⟩ : ∃ e, d = e + 1 := ⟨d - 1, by omega⟩
  rw [cl_X11_copies]
  simp (implicitDefEqProofs := false) (disch := omega) only [↓rI_s, ↓rV_s, ↓rI_e, ↓rV_e, zc_eq, zc_ne, zc_lt, zc_ge, zc_gt, zc_le, zlt_t, zlt_f, zle_t, zle_f, zeq_t, zeq_f, lz, zadd, zsub, zmul, zneg, zb_e0, zb_e1, boo0, boo1, ua_s, ua_n, ua_ua, up_s, u2_s, u2_f, u2_c, u2_u2, Int.natCast_add, Int.zero_add, Int.add_zero, ↓reduceIte, ne_eq, not_true_eq_false, not_false_eq_true, Int.natCast_one, ↓k_X11_copies_0]
  have hid : ua A 86 (cpy 0 (A 85) (A 86)) = A := by rw [cpy_0]; exact ua_id
  conv => lhs; rw [← hid]
  refine lp_x (fun j (g : Unit) => q_run qm_X11_copies (q_call q_MT d) 3 [.ref 59, .ref 85, .ref 86, .int (zI n), .int (zI j)] [] (zM I (ua A 86 (cpy j (A 85) (A 86))) W)) (fun j g => True) (fun r => r = _) n ?_ ?_ 0 () (by omega) trivial
  · intro _ _
    rw [k_X11_copies_3]
    simp (implicitDefEqProofs := false) (disch := omega) only [↓rI_s, ↓rV_s, ↓rI_e, ↓rV_e, zc_eq, zc_ne, zc_lt, zc_ge, zc_gt, zc_le, zlt_t, zlt_f, zle_t, zle_f, zeq_t, zeq_f, lz, zadd, zsub, zmul, zneg, zb_e0, zb_e1, boo0, boo1, ua_s, ua_n, ua_ua, up_s, u2_s, u2_f, u2_c, u2_u2, Int.natCast_add, Int.zero_add, Int.add_zero, ↓reduceIte, ne_eq, not_true_eq_false, not_false_eq_true, Int.natCast_one, Int.le_refl]
  · intro j _ hj _
    refine .inr ⟨(), trivial, ?_⟩
    rw [k_X11_copies_3]
    simp (implicitDefEqProofs := false) (disch := omega) only [↓rI_s, ↓rV_s, ↓rI_e, ↓rV_e, zc_eq, zc_ne, zc_lt, zc_ge, zc_gt, zc_le, zlt_t, zlt_f, zle_t, zle_f, zeq_t, zeq_f, lz, zadd, zsub, zmul, zneg, zb_e0, zb_e1, boo0, boo1, ua_s, ua_n, ua_ua, up_s, u2_s, u2_f, u2_c, u2_u2, Int.natCast_add, Int.zero_add, Int.add_zero, ↓reduceIte, ne_eq, not_true_eq_false, not_false_eq_true, Int.natCast_one, zl_85, zs_86, cpy_s]
theorem m_take (hd : 2 ≤ d) : q_call q_MT d 205 [.ref 59] (zM I A W) = some (.inl none, zM I (ua A 77 (cpy 47 (A 76) (A 77))) W) := by
  obtain ⟨d, rfl⟩ : ∃ e, d = e + 1 := ⟨d - 1, by omega⟩
  rw [cl_X11_take]
  simp (implicitDefEqProofs := false) (disch := omega) only [↓rI_s, ↓rV_s, ↓rI_e, ↓rV_e, zc_eq, zc_ne, zc_lt, zc_ge, zc_gt, zc_le, zlt_t, zlt_f, zle_t, zle_f, zeq_t, zeq_f, lz, zadd, zsub, zmul, zneg, zb_e0, zb_e1, boo0, boo1, ua_s, ua_n, ua_ua, up_s, u2_s, u2_f, u2_c, u2_u2, Int.natCast_add, Int.zero_add, Int.add_zero, ↓reduceIte, ne_eq, not_true_eq_false, not_false_eq_true, Int.natCast_one, ↓k_X11_take_0, ↓zg_59_42, zl_76, zs_76, ↓zn_76, ↓zg_59_43, zl_77, zs_77, ↓zn_77, ↓mc_59]
  rw [show (47 : Int) = ((47 : Nat) : Int) from rfl, m_copies_76_77 (n := 47) (by omega) (by decide)]
  simp (implicitDefEqProofs := false) (disch := omega) only [↓rI_s, ↓rV_s, ↓rI_e, ↓rV_e, zc_eq, zc_ne, zc_lt, zc_ge, zc_gt, zc_le, zlt_t, zlt_f, zle_t, zle_f, zeq_t, zeq_f, lz, zadd, zsub, zmul, zneg, zb_e0, zb_e1, boo0, boo1, ua_s, ua_n, ua_ua, up_s, u2_s, u2_f, u2_c, u2_u2, Int.natCast_add, Int.zero_add, Int.add_zero, ↓reduceIte, ne_eq, not_true_eq_false, not_false_eq_true, Int.natCast_one]
theorem m_lands {w x : Int} (hd : 2 ≤ d) (hR : mR R I A) (hs : sP R (A 77)) (h0 : 0 ≤ w) (h1 : w < rW R) (hx : -100 ≤ x ∧ x ≤ 100) : q_call q_MT d 215 [.ref 59, .int (zI w), .int (zI x)] (zM I A W) = some (.inl (some (.int (zI (lndC R x)))), zM I (ua A 77 (lnd R (A 77) w x)) W) := by
  obtain ⟨d, rfl⟩ : ∃ e, d = e + 1 := ⟨d - 1, by omega⟩
  have hw := hR.1.2.1
  have hn := hR.2.2.1
  have hc4 := hR.1.2.2.1
  have hsb := hs.b hR.1
  have bw := hsb w h0 h1
  have pw := hs w h0 h1
  rw [cl_X11_lands]
  simp (implicitDefEqProofs := false) (disch := omega) only [↓rI_s, ↓rV_s, ↓rI_e, ↓rV_e, zc_eq, zc_ne, zc_lt, zc_ge, zc_gt, zc_le, zlt_t, zlt_f, zle_t, zle_f, zeq_t, zeq_f, lz, zadd, zsub, zmul, zneg, zb_e0, zb_e1, boo0, boo1, ua_s, ua_n, ua_ua, up_s, u2_s, u2_f, u2_c, u2_u2, Int.natCast_add, Int.zero_add, Int.add_zero, ↓reduceIte, ne_eq, not_true_eq_false, not_false_eq_true, Int.natCast_one, ↓k_X11_lands_0]
  have hid : ua A 77 (lnd1 0 (A 77) w) = A := by rw [lnd1_0]; exact ua_id
  conv => lhs; rw [← hid]
  refine lp_x (fun j (g : Unit) => q_run qm_X11_lands (q_call q_MT d) 2 [.ref 59, .int (zI w), .int (zI x), .int (zI j)] [] (zM I (ua A 77 (lnd1 j (A 77) w)) W)) (fun j g => True) (fun r => r = _) (rW R) ?_ ?_ 0 () (by omega) trivial
  · intro _ _
    have hR1 : mR R I (ua A 77 (lnd1 (rW R) (A 77) w)) := hR.fr (L := [77]) (fr.refl.a rfl) rfl
    have hR2 : mR R I (ua A 77 (up (lnd1 (rW R) (A 77) w) w (-2))) := hR.fr (L := [77]) (fr.refl.a rfl) rfl
    have hs2 : sB R (ua A 77 (up (lnd1 (rW R) (A 77) w) w (-2)) 77) := fun v v0 v1 => by
      have b := hsb v v0 v1
      have p := hs v v0 v1
      rw [ua_s, up_n (j' := 10 + v) (by omega)]
      unfold up lnd1
      rw [if_neg (show ¬ (10 ≤ v ∧ v < 10 + (rW R : Int) ∧ A 77 (v - 10) = A 77 w ∧ A 77 (10 + w) < A 77 v) by omega)]
      split <;> split <;> omega
    have hc0 := lndC_lo R x
    have hc1 := lndC_hi R x
    have m0 := many_lo R (up (lnd1 (rW R) (A 77) w) w (-2)) x
    have m1 := many_hi R (up (lnd1 (rW R) (A 77) w) w (-2)) x
    rw [k_X11_lands_2]
    unfold lnd
    by_cases q : x = -2
    · have hl : lndC R x = -1 := by unfold lndC; rw [if_pos q]
      rw [hl]
      simp (implicitDefEqProofs := false) (disch := omega) only [↓rI_s, ↓rV_s, ↓rI_e, ↓rV_e, zc_eq, zc_ne, zc_lt, zc_ge, zc_gt, zc_le, zlt_t, zlt_f, zle_t, zle_f, zeq_t, zeq_f, lz, zadd, zsub, zmul, zneg, zb_e0, zb_e1, boo0, boo1, ua_s, ua_n, ua_ua, up_s, u2_s, u2_f, u2_c, u2_u2, Int.natCast_add, Int.zero_add, Int.add_zero, ↓reduceIte, ne_eq, not_true_eq_false, not_false_eq_true, Int.natCast_one, ↓k_X11_lands_0, ↓k_X11_lands_63, ↓k_X11_lands_84, ↓k_X11_lands_114, ↓k_X11_lands_123, ↓k_X11_lands_142, ↓k_X11_lands_161, ↓zg_59_22, ↓zg_59_43, zl_77, zs_77, ↓zn_77, ↓mc_59, hn, Int.le_refl, q, true_or]
    · have hl : lndC R x = cupAt R x := by unfold lndC; rw [if_neg q]
      simp (implicitDefEqProofs := false) (disch := omega) only [↓rI_s, ↓rV_s, ↓rI_e, ↓rV_e, zc_eq, zc_ne, zc_lt, zc_ge, zc_gt, zc_le, zlt_t, zlt_f, zle_t, zle_f, zeq_t, zeq_f, lz, zadd, zsub, zmul, zneg, zb_e0, zb_e1, boo0, boo1, ua_s, ua_n, ua_ua, up_s, u2_s, u2_f, u2_c, u2_u2, Int.natCast_add, Int.zero_add, Int.add_zero, ↓reduceIte, ne_eq, not_true_eq_false, not_false_eq_true, Int.natCast_one, ↓zg_59_22, hn, Int.le_refl, ↓mc_59]
      rw [m_cupAt (by omega) hR1 (by omega), ← hl]
      by_cases q2 : lndC R x = -1
      · simp (implicitDefEqProofs := false) (disch := omega) only [↓rI_s, ↓rV_s, ↓rI_e, ↓rV_e, zc_eq, zc_ne, zc_lt, zc_ge, zc_gt, zc_le, zlt_t, zlt_f, zle_t, zle_f, zeq_t, zeq_f, lz, zadd, zsub, zmul, zneg, zb_e0, zb_e1, boo0, boo1, ua_s, ua_n, ua_ua, up_s, u2_s, u2_f, u2_c, u2_u2, Int.natCast_add, Int.zero_add, Int.add_zero, ↓reduceIte, ne_eq, not_true_eq_false, not_false_eq_true, Int.natCast_one, ↓k_X11_lands_84, ↓zg_59_43, zs_77, ↓mc_59, q2]
        rw [m_manyAt (by omega) hR2 hs2 (by omega) (by omega), ua_s]
        simp (implicitDefEqProofs := false) (disch := omega) only [↓rI_s, ↓rV_s, ↓rI_e, ↓rV_e, zc_eq, zc_ne, zc_lt, zc_ge, zc_gt, zc_le, zlt_t, zlt_f, zle_t, zle_f, zeq_t, zeq_f, lz, zadd, zsub, zmul, zneg, zb_e0, zb_e1, boo0, boo1, ua_s, ua_n, ua_ua, up_s, u2_s, u2_f, u2_c, u2_u2, Int.natCast_add, Int.zero_add, Int.add_zero, ↓reduceIte, ne_eq, not_true_eq_false, not_false_eq_true, Int.natCast_one, ↓k_X11_lands_0, ↓k_X11_lands_63, ↓k_X11_lands_84, ↓k_X11_lands_114, ↓k_X11_lands_123, ↓k_X11_lands_142, ↓k_X11_lands_161, ↓zg_59_22, ↓zg_59_43, zl_77, zs_77, ↓zn_77, ↓mc_59, q, or_false]
      · simp (implicitDefEqProofs := false) (disch := omega) only [↓rI_s, ↓rV_s, ↓rI_e, ↓rV_e, zc_eq, zc_ne, zc_lt, zc_ge, zc_gt, zc_le, zlt_t, zlt_f, zle_t, zle_f, zeq_t, zeq_f, lz, zadd, zsub, zmul, zneg, zb_e0, zb_e1, boo0, boo1, ua_s, ua_n, ua_ua, up_s, u2_s, u2_f, u2_c, u2_u2, Int.natCast_add, Int.zero_add, Int.add_zero, ↓reduceIte, ne_eq, not_true_eq_false, not_false_eq_true, Int.natCast_one, ↓k_X11_lands_0, ↓k_X11_lands_63, ↓k_X11_lands_84, ↓k_X11_lands_114, ↓k_X11_lands_123, ↓k_X11_lands_142, ↓k_X11_lands_161, ↓zg_59_22, ↓zg_59_43, zl_77, zs_77, ↓zn_77, ↓mc_59, q2, or_true]
  · intro j _ hj _
    refine .inr ⟨(), trivial, ?_⟩
    have bj := hsb j (by omega) (by omega)
    have e1 : lnd1 j (A 77) w j = A 77 j := lnd1_n (by omega)
    have e2 : lnd1 j (A 77) w w = A 77 w := lnd1_n (by omega)
    have e3 : lnd1 j (A 77) w (10 + j) = A 77 (10 + j) := lnd1_n (by omega)
    have e4 : lnd1 j (A 77) w (10 + w) = A 77 (10 + w) := lnd1_n (by omega)
    rw [k_X11_lands_2]
    by_cases q1 : A 77 j = A 77 w
    · by_cases q2 : A 77 (10 + w) < A 77 (10 + j)
      · simp (implicitDefEqProofs := false) (disch := omega) only [↓rI_s, ↓rV_s, ↓rI_e, ↓rV_e, zc_eq, zc_ne, zc_lt, zc_ge, zc_gt, zc_le, zlt_t, zlt_f, zle_t, zle_f, zeq_t, zeq_f, lz, zadd, zsub, zmul, zneg, zb_e0, zb_e1, boo0, boo1, ua_s, ua_n, ua_ua, up_s, u2_s, u2_f, u2_c, u2_u2, Int.natCast_add, Int.zero_add, Int.add_zero, ↓reduceIte, ne_eq, not_true_eq_false, not_false_eq_true, Int.natCast_one, ↓k_X11_lands_0, ↓k_X11_lands_63, ↓k_X11_lands_84, ↓k_X11_lands_114, ↓k_X11_lands_123, ↓k_X11_lands_142, ↓k_X11_lands_161, ↓zg_59_22, ↓zg_59_43, zl_77, zs_77, ↓zn_77, ↓mc_59, hn, e1, e2, e3, e4, lnd1_t ⟨q1, q2⟩]
      · rw [← lnd1_f (fun q => q2 q.2)]
        simp (implicitDefEqProofs := false) (disch := omega) only [↓rI_s, ↓rV_s, ↓rI_e, ↓rV_e, zc_eq, zc_ne, zc_lt, zc_ge, zc_gt, zc_le, zlt_t, zlt_f, zle_t, zle_f, zeq_t, zeq_f, lz, zadd, zsub, zmul, zneg, zb_e0, zb_e1, boo0, boo1, ua_s, ua_n, ua_ua, up_s, u2_s, u2_f, u2_c, u2_u2, Int.natCast_add, Int.zero_add, Int.add_zero, ↓reduceIte, ne_eq, not_true_eq_false, not_false_eq_true, Int.natCast_one, ↓k_X11_lands_0, ↓k_X11_lands_63, ↓k_X11_lands_84, ↓k_X11_lands_114, ↓k_X11_lands_123, ↓k_X11_lands_142, ↓k_X11_lands_161, ↓zg_59_22, ↓zg_59_43, zl_77, zs_77, ↓zn_77, ↓mc_59, hn, e1, e2, e3, e4]
    · rw [← lnd1_f (fun q => q1 q.1)]
      simp (implicitDefEqProofs := false) (disch := omega) only [↓rI_s, ↓rV_s, ↓rI_e, ↓rV_e, zc_eq, zc_ne, zc_lt, zc_ge, zc_gt, zc_le, zlt_t, zlt_f, zle_t, zle_f, zeq_t, zeq_f, lz, zadd, zsub, zmul, zneg, zb_e0, zb_e1, boo0, boo1, ua_s, ua_n, ua_ua, up_s, u2_s, u2_f, u2_c, u2_u2, Int.natCast_add, Int.zero_add, Int.add_zero, ↓reduceIte, ne_eq, not_true_eq_false, not_false_eq_true, Int.natCast_one, ↓k_X11_lands_0, ↓k_X11_lands_63, ↓k_X11_lands_84, ↓k_X11_lands_114, ↓k_X11_lands_123, ↓k_X11_lands_142, ↓k_X11_lands_161, ↓zg_59_22, ↓zg_59_43, zl_77, zs_77, ↓zn_77, ↓mc_59, hn, e1, e2]
theorem m_earns {h v : Int} (hd : 1 ≤ d) (h0 : 0 ≤ h) (h1 : h < 5) (hv : 0 ≤ v ∧ v ≤ 100) (hp : -1 ≤ A 77 (40 + h) ∧ A 77 (40 + h) ≤ 9999) : q_call q_MT d 216 [.ref 59, .int (zI h), .int (zI v)] (zM I A W) = some (.inl none, zM I (ua A 77 (ern (A 77) h v)) W) := by
  obtain ⟨d, rfl⟩ : ∃ e, d = e + 1 := ⟨d - 1, by omega⟩
  rw [cl_X11_earns]
  unfold ern
  by_cases q : 9999 < A 77 (40 + h) + v
  · simp (implicitDefEqProofs := false) (disch := omega) only [↓rI_s, ↓rV_s, ↓rI_e, ↓rV_e, zc_eq, zc_ne, zc_lt, zc_ge, zc_gt, zc_le, zlt_t, zlt_f, zle_t, zle_f, zeq_t, zeq_f, lz, zadd, zsub, zmul, zneg, zb_e0, zb_e1, boo0, boo1, ua_s, ua_n, ua_ua, up_s, u2_s, u2_f, u2_c, u2_u2, Int.natCast_add, Int.zero_add, Int.add_zero, ↓reduceIte, ne_eq, not_true_eq_false, not_false_eq_true, Int.natCast_one, ↓k_X11_earns_0, ↓k_X11_earns_42, ↓zg_59_43, zl_77, zs_77, ↓zn_77, q]
  · simp (implicitDefEqProofs := false) (disch := omega) only [↓rI_s, ↓rV_s, ↓rI_e, ↓rV_e, zc_eq, zc_ne, zc_lt, zc_ge, zc_gt, zc_le, zlt_t, zlt_f, zle_t, zle_f, zeq_t, zeq_f, lz, zadd, zsub, zmul, zneg, zb_e0, zb_e1, boo0, boo1, ua_s, ua_n, ua_ua, up_s, u2_s, u2_f, u2_c, u2_u2, Int.natCast_add, Int.zero_add, Int.add_zero, ↓reduceIte, ne_eq, not_true_eq_false, not_false_eq_true, Int.natCast_one, ↓k_X11_earns_0, ↓k_X11_earns_42, ↓zg_59_43, zl_77, zs_77, ↓zn_77, q]
theorem m_flights {w p h : Int} (hd : 8 ≤ d) (hR : mR R I A) (hL : mL F I A) (hs : sP R (A 77)) (h0 : 0 ≤ w) (h1 : w < rW R) (hh : h = 0 ∨ h = 1) : ∃ A', fr [72, 73, 77] A A' ∧ A' 77 = (if dn R F (A 77) w p h = A 77 w then up (A 77) (20 + w) (A 77 (20 + w) + 1) else lnd R (up (A 77) (20 + w) (A 77 (20 + w) + 1)) w (dn R F (A 77) w p h)) ∧ q_call q_MT d 217 [.ref 59, .int (zI w), .int (zI p), .int (zI h)] (zM I A W) = some (.inl (some (.int (zI (if dn R F (A 77) w p h = A 77 w then -1 else lndC R (dn R F (A 77) w p h))))), zM I A' W) := by
  obtain ⟨d, rfl⟩ : ∃ e, d = e + 1 := ⟨d - 1, by omega⟩
  have hw := hR.1.2.1
  have hf := hR.1.2.2.2.2.1
  have bw := hs.b hR.1 w h0 h1
  obtain ⟨A1, f1, e1⟩ := m_comesTo (p := p) (W := W) (show 7 ≤ d by omega) hR hL (hs.b hR.1) h0 h1 hh
  have e7 : A1 77 = A 77 := f1 77 rfl
  have hb := dn_c (s := A 77) (w := w) (p := p) (h := h) hR.1 hL.w
  rw [cl_X11_flights]
  by_cases q : dn R F (A 77) w p h = A 77 w
  · refine ⟨ua A1 77 (up (A 77) (20 + w) (A 77 (20 + w) + 1)), (f1.wd rfl).a rfl, by rw [if_pos q, ua_s], ?_⟩
    rw [if_pos q]
    simp (implicitDefEqProofs := false) (disch := omega) only [↓rI_s, ↓rV_s, ↓rI_e, ↓rV_e, zc_eq, zc_ne, zc_lt, zc_ge, zc_gt, zc_le, zlt_t, zlt_f, zle_t, zle_f, zeq_t, zeq_f, lz, zadd, zsub, zmul, zneg, zb_e0, zb_e1, boo0, boo1, ua_s, ua_n, ua_ua, up_s, u2_s, u2_f, u2_c, u2_u2, Int.natCast_add, Int.zero_add, Int.add_zero, ↓reduceIte, ne_eq, not_true_eq_false, not_false_eq_true, Int.natCast_one, ↓k_X11_flights_0, ↓k_X11_flights_46, ↓mc_59, ↓zg_59_43, zl_77, zs_77, ↓zn_77, e1, e7, q, up_n (j' := w)]
  · rw [if_neg q, if_neg q]
    have hs1 : sP R (up (A 77) (20 + w) (A 77 (20 + w) + 1)) := fun v v0 v1 => by
      rw [up_n (by omega), up_n (by omega), up_n (by omega)]; exact hs v v0 v1
    have e2 := m_lands (A := ua A1 77 (up (A 77) (20 + w) (A 77 (20 + w) + 1))) (x := dn R F (A 77) w p h) (W := W) (show 2 ≤ d by omega) (hR.fr (L := [72, 73, 77]) ((f1.wd rfl).a rfl) rfl) hs1 h0 h1 (by omega)
    rw [ua_ua, ua_s] at e2
    refine ⟨ua A1 77 (lnd R (up (A 77) (20 + w) (A 77 (20 + w) + 1)) w (dn R F (A 77) w p h)), (f1.wd rfl).a rfl, by rw [ua_s], ?_⟩
    simp (implicitDefEqProofs := false) (disch := omega) only [↓rI_s, ↓rV_s, ↓rI_e, ↓rV_e, zc_eq, zc_ne, zc_lt, zc_ge, zc_gt, zc_le, zlt_t, zlt_f, zle_t, zle_f, zeq_t, zeq_f, lz, zadd, zsub, zmul, zneg, zb_e0, zb_e1, boo0, boo1, ua_s, ua_n, ua_ua, up_s, u2_s, u2_f, u2_c, u2_u2, Int.natCast_add, Int.zero_add, Int.add_zero, ↓reduceIte, ne_eq, not_true_eq_false, not_false_eq_true, Int.natCast_one, ↓k_X11_flights_0, ↓k_X11_flights_46, ↓mc_59, ↓zg_59_43, zl_77, zs_77, ↓zn_77, e1, e7, up_n (j' := w), e2]
theorem m_flicks {w p h : Int} (hd : 9 ≤ d) (hR : mR R I A) (hL : mL F I A) (hV : sV R (A 77)) (h0 : 0 ≤ w) (h1 : w < rW R) (hh : h = 0 ∨ h = 1) : ∃ A', fr [72, 73, 77] A A' ∧ A' 77 = flk R F (A 77) w p h ∧ q_call q_MT d 218 [.ref 59, .int (zI w), .int (zI p), .int (zI h)] (zM I A W) = some (.inl (some (.int (zI (zb (canF R (A 77) w))))), zM I A' W) := by
  obtain ⟨d, rfl⟩ : ∃ e, d = e + 1 := ⟨d - 1, by omega⟩
  have hw := hR.1.2.1
  have h5 := hR.1.1
  have hc4 := hR.1.2.2.1
  have ho := hR.1.o h0 h1
  have eo := hR.2.2.2.2.2.2.1 w h0 h1
  have po := hV.2.2.2.2 (rO R w) ho.1 ho.2
  rw [cl_X11_flicks]
  simp (implicitDefEqProofs := false) (disch := omega) only [↓rI_s, ↓rV_s, ↓rI_e, ↓rV_e, zc_eq, zc_ne, zc_lt, zc_ge, zc_gt, zc_le, zlt_t, zlt_f, zle_t, zle_f, zeq_t, zeq_f, lz, zadd, zsub, zmul, zneg, zb_e0, zb_e1, boo0, boo1, ua_s, ua_n, ua_ua, up_s, u2_s, u2_f, u2_c, u2_u2, Int.natCast_add, Int.zero_add, Int.add_zero, ↓reduceIte, ne_eq, not_true_eq_false, not_false_eq_true, Int.natCast_one, ↓k_X11_flicks_0, ↓k_X11_flicks_31, ↓k_X11_flicks_79, ↓zg_59_14, zl_66, zs_66, ↓zn_66, ↓mc_59, ↓zg_59_43, zl_77, zs_77, ↓zn_77, ↓zg_59_15, zl_67, zs_67, ↓zn_67, eo]
  rw [m_canFlick (by omega) hR (hV.1.b hR.1) h0 h1]
  by_cases q1 : free R (A 77) w
  · by_cases q2 : A 77 (40 + rO R w) = 0
    · refine ⟨A, fr.refl, by rw [flk, if_neg (fun q => q.2 q2)], ?_⟩
      rw [zb_t q1, zb_f (p := canF R (A 77) w) (fun q => q.2 q2)]
      simp (implicitDefEqProofs := false) (disch := omega) only [↓rI_s, ↓rV_s, ↓rI_e, ↓rV_e, zc_eq, zc_ne, zc_lt, zc_ge, zc_gt, zc_le, zlt_t, zlt_f, zle_t, zle_f, zeq_t, zeq_f, lz, zadd, zsub, zmul, zneg, zb_e0, zb_e1, boo0, boo1, ua_s, ua_n, ua_ua, up_s, u2_s, u2_f, u2_c, u2_u2, Int.natCast_add, Int.zero_add, Int.add_zero, ↓reduceIte, ne_eq, not_true_eq_false, not_false_eq_true, Int.natCast_one, ↓k_X11_flicks_0, ↓k_X11_flicks_31, ↓k_X11_flicks_79, ↓zg_59_14, zl_66, zs_66, ↓zn_66, ↓mc_59, ↓zg_59_43, zl_77, zs_77, ↓zn_77, ↓zg_59_15, zl_67, zs_67, ↓zn_67, q2]
    · obtain ⟨A1, f1, e7, e1⟩ := m_flights (p := p) (W := W) (show 8 ≤ d by omega) hR hL hV.1 h0 h1 hh
      rw [zb_t q1, zb_t (p := canF R (A 77) w) ⟨q1, q2⟩, flk, if_pos ⟨q1, q2⟩, flkX]
      have hR1 := hR.fr f1 rfl
      have e40 : A1 77 (40 + rO R w) = A 77 (40 + rO R w) := by
        rw [e7]
        split
        · rw [up_n (by omega)]
        · rw [lnd_o hw h0 h1 (by omega) (by omega), up_n (by omega)]
      have hc0 := lndC_lo R (dn R F (A 77) w p h)
      have hc1 := lndC_hi R (dn R F (A 77) w p h)
      by_cases q3 : dn R F (A 77) w p h = A 77 w
      · rw [if_pos q3]
        rw [if_pos q3] at e7 e1
        refine ⟨ua A1 77 (up (A1 77) (40 + rO R w) (A 77 (40 + rO R w) - 1)), f1.a rfl, ?_, ?_⟩
        · rw [ua_s, e7, up_cm (by omega)]; rfl
        · simp (implicitDefEqProofs := false) (disch := omega) only [↓rI_s, ↓rV_s, ↓rI_e, ↓rV_e, zc_eq, zc_ne, zc_lt, zc_ge, zc_gt, zc_le, zlt_t, zlt_f, zle_t, zle_f, zeq_t, zeq_f, lz, zadd, zsub, zmul, zneg, zb_e0, zb_e1, boo0, boo1, ua_s, ua_n, ua_ua, up_s, u2_s, u2_f, u2_c, u2_u2, Int.natCast_add, Int.zero_add, Int.add_zero, ↓reduceIte, ne_eq, not_true_eq_false, not_false_eq_true, Int.natCast_one, ↓k_X11_flicks_0, ↓k_X11_flicks_31, ↓k_X11_flicks_79, ↓zg_59_14, zl_66, zs_66, ↓zn_66, ↓mc_59, ↓zg_59_43, zl_77, zs_77, ↓zn_77, ↓zg_59_15, zl_67, zs_67, ↓zn_67, e1, e40]
      · rw [if_neg q3]
        rw [if_neg q3] at e7 e1
        have e8 : up (A1 77) (40 + rO R w) (A 77 (40 + rO R w) - 1) = lnd R (flk1 R (A 77) w) w (dn R F (A 77) w p h) := by
          rw [e7, ← lnd_cm hw h0 h1 (by omega), up_cm (by omega)]; rfl
        by_cases q4 : lndC R (dn R F (A 77) w p h) = -1
        · rw [if_pos q4]
          rw [q4] at e1
          refine ⟨ua A1 77 (lnd R (flk1 R (A 77) w) w (dn R F (A 77) w p h)), f1.a rfl, by rw [ua_s], ?_⟩
          simp (implicitDefEqProofs := false) (disch := omega) only [↓rI_s, ↓rV_s, ↓rI_e, ↓rV_e, zc_eq, zc_ne, zc_lt, zc_ge, zc_gt, zc_le, zlt_t, zlt_f, zle_t, zle_f, zeq_t, zeq_f, lz, zadd, zsub, zmul, zneg, zb_e0, zb_e1, boo0, boo1, ua_s, ua_n, ua_ua, up_s, u2_s, u2_f, u2_c, u2_u2, Int.natCast_add, Int.zero_add, Int.add_zero, ↓reduceIte, ne_eq, not_true_eq_false, not_false_eq_true, Int.natCast_one, ↓k_X11_flicks_0, ↓k_X11_flicks_31, ↓k_X11_flicks_79, ↓zg_59_14, zl_66, zs_66, ↓zn_66, ↓mc_59, ↓zg_59_43, zl_77, zs_77, ↓zn_77, ↓zg_59_15, zl_67, zs_67, ↓zn_67, e1, e40, e8]
        · rw [if_neg q4]
          have ep := hR1.2.2.2.2.2.2.2.2.2 (lndC R (dn R F (A 77) w p h)) (by omega) hc1
          have bp := hR.1.2.2.2.2.2.2.2.2.2.2 (lndC R (dn R F (A 77) w p h)) (by omega) hc1
          have e9 := m_earns (A := ua A1 77 (lnd R (flk1 R (A 77) w) w (dn R F (A 77) w p h))) (I := I) (W := W) (h := rO R w) (v := rP R (lndC R (dn R F (A 77) w p h))) (show 1 ≤ d by omega) ho.1 (by omega) (by omega) (by
            rw [ua_s, ← e8, up_s]; omega)
          rw [ua_ua, ua_s] at e9
          refine ⟨ua A1 77 (ern (lnd R (flk1 R (A 77) w) w (dn R F (A 77) w p h)) (rO R w) (rP R (lndC R (dn R F (A 77) w p h)))), f1.a rfl, by rw [ua_s], ?_⟩
          simp (implicitDefEqProofs := false) (disch := omega) only [↓rI_s, ↓rV_s, ↓rI_e, ↓rV_e, zc_eq, zc_ne, zc_lt, zc_ge, zc_gt, zc_le, zlt_t, zlt_f, zle_t, zle_f, zeq_t, zeq_f, lz, zadd, zsub, zmul, zneg, zb_e0, zb_e1, boo0, boo1, ua_s, ua_n, ua_ua, up_s, u2_s, u2_f, u2_c, u2_u2, Int.natCast_add, Int.zero_add, Int.add_zero, ↓reduceIte, ne_eq, not_true_eq_false, not_false_eq_true, Int.natCast_one, ↓k_X11_flicks_0, ↓k_X11_flicks_31, ↓k_X11_flicks_79, ↓zg_59_14, zl_66, zs_66, ↓zn_66, ↓mc_59, ↓zg_59_43, zl_77, zs_77, ↓zn_77, ↓zg_59_15, zl_67, zs_67, ↓zn_67, e1, e40, e8, ep, e9]
  · refine ⟨A, fr.refl, by rw [flk, if_neg (fun q => q1 q.1)], ?_⟩
    rw [zb_f q1, zb_f (p := canF R (A 77) w) (fun q => q1 q.1)]
    simp (implicitDefEqProofs := false) (disch := omega) only [↓rI_s, ↓rV_s, ↓rI_e, ↓rV_e, zc_eq, zc_ne, zc_lt, zc_ge, zc_gt, zc_le, zlt_t, zlt_f, zle_t, zle_f, zeq_t, zeq_f, lz, zadd, zsub, zmul, zneg, zb_e0, zb_e1, boo0, boo1, ua_s, ua_n, ua_ua, up_s, u2_s, u2_f, u2_c, u2_u2, Int.natCast_add, Int.zero_add, Int.add_zero, ↓reduceIte, ne_eq, not_true_eq_false, not_false_eq_true, Int.natCast_one, ↓k_X11_flicks_0, ↓k_X11_flicks_31, ↓k_X11_flicks_79, ↓zg_59_14, zl_66, zs_66, ↓zn_66, ↓mc_59, ↓zg_59_43, zl_77, zs_77, ↓zn_77, ↓zg_59_15, zl_67, zs_67, ↓zn_67]
theorem m_frees (hd : 4 ≤ d) (hR : mR R I A) (hs : sB R (A 77)) : ∃ g, (∀ v : Int, 0 ≤ v → v < rW R → g v = zb (free R (A 77) v)) ∧ q_call q_MT d 219 [.ref 59] (zM I A W) = some (.inl (some (.int (zI (zb (bts (rW R) (fun w => decide (free R (A 77) w)) ≠ 0))))), zM I (ua A 79 g) W) := by
  obtain ⟨d, rfl⟩ : ∃ e, d = e + 1 := ⟨d - 1, by omega⟩
  have hw := hR.1.2.1
  have hn := hR.2.2.1
  rw [cl_X11_frees]
  simp (implicitDefEqProofs := false) (disch := omega) only [↓rI_s, ↓rV_s, ↓rI_e, ↓rV_e, zc_eq, zc_ne, zc_lt, zc_ge, zc_gt, zc_le, zlt_t, zlt_f, zle_t, zle_f, zeq_t, zeq_f, lz, zadd, zsub, zmul, zneg, zb_e0, zb_e1, boo0, boo1, ua_s, ua_n, ua_ua, up_s, u2_s, u2_f, u2_c, u2_u2, Int.natCast_add, Int.zero_add, Int.add_zero, ↓reduceIte, ne_eq, not_true_eq_false, not_false_eq_true, Int.natCast_one, ↓k_X11_frees_0]
  have hid : ua A 79 (A 79) = A := ua_id
  conv => enter [1, g, 2, 1]; rw [← hid]
  refine lp_x (fun j (g : Int → Int) => q_run qm_X11_frees (q_call q_MT d) 4 [.ref 59, .int (zI (zb (bts j (fun w => decide (free R (A 77) w)) ≠ 0))), .int (zI j)] [] (zM I (ua A 79 g) W)) (fun j g => ∀ v : Int, 0 ≤ v → v < j → g v = zb (free R (A 77) v)) (fun r => ∃ g, (∀ v : Int, 0 ≤ v → v < rW R → g v = zb (free R (A 77) v)) ∧ r = some (.inl (some (.int (zI (zb (bts (rW R) (fun w => decide (free R (A 77) w)) ≠ 0))))), zM I (ua A 79 g) W)) (rW R) ?_ ?_ 0 (A 79) (by omega) (fun v v0 v1 => by omega)
  · intro g hg
    refine ⟨g, hg, ?_⟩
    rw [k_X11_frees_4]
    by_cases q : bts (rW R) (fun w => decide (free R (A 77) w)) ≠ 0
    · rw [zb_t q]
      simp (implicitDefEqProofs := false) (disch := omega) only [↓rI_s, ↓rV_s, ↓rI_e, ↓rV_e, zc_eq, zc_ne, zc_lt, zc_ge, zc_gt, zc_le, zlt_t, zlt_f, zle_t, zle_f, zeq_t, zeq_f, lz, zadd, zsub, zmul, zneg, zb_e0, zb_e1, boo0, boo1, ua_s, ua_n, ua_ua, up_s, u2_s, u2_f, u2_c, u2_u2, Int.natCast_add, Int.zero_add, Int.add_zero, ↓reduceIte, ne_eq, not_true_eq_false, not_false_eq_true, Int.natCast_one, ↓k_X11_frees_0, ↓k_X11_frees_36, ↓k_X11_frees_41, ↓zg_59_22, ↓zg_59_45, zl_79, zs_79, ↓zn_79, ↓mc_59, hn, Int.le_refl]
    · rw [zb_f q]
      simp (implicitDefEqProofs := false) (disch := omega) only [↓rI_s, ↓rV_s, ↓rI_e, ↓rV_e, zc_eq, zc_ne, zc_lt, zc_ge, zc_gt, zc_le, zlt_t, zlt_f, zle_t, zle_f, zeq_t, zeq_f, lz, zadd, zsub, zmul, zneg, zb_e0, zb_e1, boo0, boo1, ua_s, ua_n, ua_ua, up_s, u2_s, u2_f, u2_c, u2_u2, Int.natCast_add, Int.zero_add, Int.add_zero, ↓reduceIte, ne_eq, not_true_eq_false, not_false_eq_true, Int.natCast_one, ↓k_X11_frees_0, ↓k_X11_frees_36, ↓k_X11_frees_41, ↓zg_59_22, ↓zg_59_45, zl_79, zs_79, ↓zn_79, ↓mc_59, hn, Int.le_refl]
  · intro j g hj hg
    refine .inr ⟨up g j (zb (free R (A 77) j)), fun v v0 v1 => ?_, ?_⟩
    · by_cases e : v = j
      · subst e; rw [up_s]
      · rw [up_n e]; exact hg v v0 (by omega)
    · rw [k_X11_frees_4]
      have hz := bts_z (p := fun w => decide (free R (A 77) w)) (n := j)
      have hz1 := bts_z (p := fun w => decide (free R (A 77) w)) (n := j + 1)
      generalize hzj : zb (bts j (fun w => decide (free R (A 77) w)) ≠ 0) = z
      simp (implicitDefEqProofs := false) (disch := omega) only [↓rI_s, ↓rV_s, ↓rI_e, ↓rV_e, zc_eq, zc_ne, zc_lt, zc_ge, zc_gt, zc_le, zlt_t, zlt_f, zle_t, zle_f, zeq_t, zeq_f, lz, zadd, zsub, zmul, zneg, zb_e0, zb_e1, boo0, boo1, ua_s, ua_n, ua_ua, up_s, u2_s, u2_f, u2_c, u2_u2, Int.natCast_add, Int.zero_add, Int.add_zero, ↓reduceIte, ne_eq, not_true_eq_false, not_false_eq_true, Int.natCast_one, ↓zg_59_22, hn, ↓zg_59_45, ↓mc_59]
      rw [m_canFlick (A := ua A 79 g) (by omega) (hR.fr (L := [79]) (fr.refl.a rfl) rfl) hs (by omega) (by omega)]
      have hr : ua A 79 g 77 = A 77 := rfl
      rw [hr]
      by_cases q1 : bts j (fun w => decide (free R (A 77) w)) ≠ 0
      · have q2 : bts (j + 1) (fun w => decide (free R (A 77) w)) ≠ 0 := fun q => q1 (hz.mpr fun k hk => hz1.mp q k (by omega))
        rw [zb_t q1] at hzj
        subst hzj
        rw [zb_t q2]
        by_cases q3 : free R (A 77) j
        · rw [zb_t q3]
          simp (implicitDefEqProofs := false) (disch := omega) only [↓rI_s, ↓rV_s, ↓rI_e, ↓rV_e, zc_eq, zc_ne, zc_lt, zc_ge, zc_gt, zc_le, zlt_t, zlt_f, zle_t, zle_f, zeq_t, zeq_f, lz, zadd, zsub, zmul, zneg, zb_e0, zb_e1, boo0, boo1, ua_s, ua_n, ua_ua, up_s, u2_s, u2_f, u2_c, u2_u2, Int.natCast_add, Int.zero_add, Int.add_zero, ↓reduceIte, ne_eq, not_true_eq_false, not_false_eq_true, Int.natCast_one, ↓k_X11_frees_0, ↓k_X11_frees_36, ↓k_X11_frees_41, ↓zg_59_22, ↓zg_59_45, zl_79, zs_79, ↓zn_79, ↓mc_59]
        · rw [zb_f q3]
          simp (implicitDefEqProofs := false) (disch := omega) only [↓rI_s, ↓rV_s, ↓rI_e, ↓rV_e, zc_eq, zc_ne, zc_lt, zc_ge, zc_gt, zc_le, zlt_t, zlt_f, zle_t, zle_f, zeq_t, zeq_f, lz, zadd, zsub, zmul, zneg, zb_e0, zb_e1, boo0, boo1, ua_s, ua_n, ua_ua, up_s, u2_s, u2_f, u2_c, u2_u2, Int.natCast_add, Int.zero_add, Int.add_zero, ↓reduceIte, ne_eq, not_true_eq_false, not_false_eq_true, Int.natCast_one, ↓k_X11_frees_0, ↓k_X11_frees_36, ↓k_X11_frees_41, ↓zg_59_22, ↓zg_59_45, zl_79, zs_79, ↓zn_79, ↓mc_59]
      · rw [zb_f q1] at hzj
        subst hzj
        by_cases q3 : free R (A 77) j
        · have q2 : bts (j + 1) (fun w => decide (free R (A 77) w)) ≠ 0 := fun q => hz1.mp q j (by omega) (decide_eq_true q3)
          rw [zb_t q3, zb_t q2]
          simp (implicitDefEqProofs := false) (disch := omega) only [↓rI_s, ↓rV_s, ↓rI_e, ↓rV_e, zc_eq, zc_ne, zc_lt, zc_ge, zc_gt, zc_le, zlt_t, zlt_f, zle_t, zle_f, zeq_t, zeq_f, lz, zadd, zsub, zmul, zneg, zb_e0, zb_e1, boo0, boo1, ua_s, ua_n, ua_ua, up_s, u2_s, u2_f, u2_c, u2_u2, Int.natCast_add, Int.zero_add, Int.add_zero, ↓reduceIte, ne_eq, not_true_eq_false, not_false_eq_true, Int.natCast_one, ↓k_X11_frees_0, ↓k_X11_frees_36, ↓k_X11_frees_41, ↓zg_59_22, ↓zg_59_45, zl_79, zs_79, ↓zn_79, ↓mc_59]
        · have q2 : ¬ bts (j + 1) (fun w => decide (free R (A 77) w)) ≠ 0 := fun q => q (hz1.mpr fun k hk => by
            by_cases e : k = j
            · subst e; exact fun q => q3 (of_decide_eq_true q)
            · exact hz.mp (Decidable.of_not_not q1) k (by omega))
          rw [zb_f q3, zb_f q2]
          simp (implicitDefEqProofs := false) (disch := omega) only [↓rI_s, ↓rV_s, ↓rI_e, ↓rV_e, zc_eq, zc_ne, zc_lt, zc_ge, zc_gt, zc_le, zlt_t, zlt_f, zle_t, zle_f, zeq_t, zeq_f, lz, zadd, zsub, zmul, zneg, zb_e0, zb_e1, boo0, boo1, ua_s, ua_n, ua_ua, up_s, u2_s, u2_f, u2_c, u2_u2, Int.natCast_add, Int.zero_add, Int.add_zero, ↓reduceIte, ne_eq, not_true_eq_false, not_false_eq_true, Int.natCast_one, ↓k_X11_frees_0, ↓k_X11_frees_36, ↓k_X11_frees_41, ↓zg_59_22, ↓zg_59_45, zl_79, zs_79, ↓zn_79, ↓mc_59]
theorem m_shakes (hd : 5 ≤ d) (hR : mR R I A) (hV : sV R (A 77)) : ∃ A', fr [77, 79] A A' ∧ A' 77 = shk R (A 77) ∧ q_call q_MT d 220 [.ref 59] (zM I A W) = some (.inl (some (.int (zI (zb (bts (rW R) (fun w => decide (free R (A 77) w)) ≠ 0))))), zM I A' W) := by
  obtain ⟨d, rfl⟩ : ∃ e, d = e + 1 := ⟨d - 1, by omega⟩
  have hw := hR.1.2.1
  have hn := hR.2.2.1
  have hf := hR.2.2.2.2.1
  have hf2 := hR.1.2.2.2.2.1
  obtain ⟨g, hg, e⟩ := m_frees (W := W) (show 4 ≤ d by omega) hR (hV.1.b hR.1)
  have hz := bts_z (p := fun w => decide (free R (A 77) w)) (n := rW R)
  rw [cl_X11_shakes]
  by_cases q : bts (rW R) (fun w => decide (free R (A 77) w)) ≠ 0
  · rw [zb_t q] at e ⊢
    simp (implicitDefEqProofs := false) (disch := omega) only [↓rI_s, ↓rV_s, ↓rI_e, ↓rV_e, zc_eq, zc_ne, zc_lt, zc_ge, zc_gt, zc_le, zlt_t, zlt_f, zle_t, zle_f, zeq_t, zeq_f, lz, zadd, zsub, zmul, zneg, zb_e0, zb_e1, boo0, boo1, ua_s, ua_n, ua_ua, up_s, u2_s, u2_f, u2_c, u2_u2, Int.natCast_add, Int.zero_add, Int.add_zero, ↓reduceIte, ne_eq, not_true_eq_false, not_false_eq_true, Int.natCast_one, ↓k_X11_shakes_0, ↓mc_59, e]
    have hid : ua (ua A 79 g) 77 (shkN R (A 77) 0) = ua A 79 g := ua_id (A := ua A 79 g)
    conv => enter [1, g, 2, 2, 1]; rw [← hid]
    refine lp_x (fun j (_ : Unit) => q_run qm_X11_shakes (q_call q_MT d) 11 [.ref 59, .int (zI j)] [] (zM I (ua (ua A 79 g) 77 (shkN R (A 77) j)) W)) (fun j _ => True) (fun r => ∃ A', fr [77, 79] A A' ∧ A' 77 = shk R (A 77) ∧ r = some (.inl (some (.int (zI 1))), zM I A' W)) (rW R) ?_ ?_ 0 () (by omega) trivial
    · intro _ _
      refine ⟨ua (ua A 79 g) 77 (shkN R (A 77) (rW R)), (fr.refl.a rfl).a rfl, ua_s, ?_⟩
      rw [k_X11_shakes_11]
      simp (implicitDefEqProofs := false) (disch := omega) only [↓rI_s, ↓rV_s, ↓rI_e, ↓rV_e, zc_eq, zc_ne, zc_lt, zc_ge, zc_gt, zc_le, zlt_t, zlt_f, zle_t, zle_f, zeq_t, zeq_f, lz, zadd, zsub, zmul, zneg, zb_e0, zb_e1, boo0, boo1, ua_s, ua_n, ua_ua, up_s, u2_s, u2_f, u2_c, u2_u2, Int.natCast_add, Int.zero_add, Int.add_zero, ↓reduceIte, ne_eq, not_true_eq_false, not_false_eq_true, Int.natCast_one, ↓k_X11_shakes_0, ↓k_X11_shakes_62, ↓k_X11_shakes_66, ↓mc_59, ↓zg_59_22, ↓zg_59_45, zl_79, zs_79, ↓zn_79, ↓zg_59_43, zl_77, zs_77, ↓zn_77, ↓zg_59_24, hn, Int.le_refl]
    · intro j _ hj _
      refine .inr ⟨(), trivial, ?_⟩
      have vj := shk_i hV hR.1 j (by omega)
      have ej := vj.2 j (by omega) (by omega)
      have gj := hg j (by omega) (by omega)
      have pj := (hV.1 j (by omega) (by omega)).1
      rw [k_X11_shakes_11]
      by_cases q : free R (A 77) j
      · have pj2 := q.1
        rw [zb_t q] at gj
        have e1 : shkN R (A 77) (j + 1) = lnd R (shkN R (A 77) j) j (if rF R ≤ shkN R (A 77) j j + 1 then -2 else shkN R (A 77) j j + 1) := if_pos q
        have e2 := m_lands (A := ua (ua A 79 g) 77 (shkN R (A 77) j)) (w := j) (x := if rF R ≤ shkN R (A 77) j j + 1 then -2 else shkN R (A 77) j j + 1) (W := W) (show 2 ≤ d by omega) (hR.fr (L := [77, 79]) ((fr.refl.a rfl).a rfl) rfl) vj.1.1 (by omega) (by omega) (by split <;> omega)
        rw [ua_ua, ua_s] at e2
        rw [e1]
        by_cases q2 : rF R ≤ shkN R (A 77) j j + 1
        · rw [if_pos q2] at e2 ⊢
          simp (implicitDefEqProofs := false) (disch := omega) only [↓rI_s, ↓rV_s, ↓rI_e, ↓rV_e, zc_eq, zc_ne, zc_lt, zc_ge, zc_gt, zc_le, zlt_t, zlt_f, zle_t, zle_f, zeq_t, zeq_f, lz, zadd, zsub, zmul, zneg, zb_e0, zb_e1, boo0, boo1, ua_s, ua_n, ua_ua, up_s, u2_s, u2_f, u2_c, u2_u2, Int.natCast_add, Int.zero_add, Int.add_zero, ↓reduceIte, ne_eq, not_true_eq_false, not_false_eq_true, Int.natCast_one, ↓k_X11_shakes_0, ↓k_X11_shakes_62, ↓k_X11_shakes_66, ↓mc_59, ↓zg_59_22, ↓zg_59_45, zl_79, zs_79, ↓zn_79, ↓zg_59_43, zl_77, zs_77, ↓zn_77, ↓zg_59_24, hn, hf, gj, e2]
        · rw [if_neg q2] at e2 ⊢
          simp (implicitDefEqProofs := false) (disch := omega) only [↓rI_s, ↓rV_s, ↓rI_e, ↓rV_e, zc_eq, zc_ne, zc_lt, zc_ge, zc_gt, zc_le, zlt_t, zlt_f, zle_t, zle_f, zeq_t, zeq_f, lz, zadd, zsub, zmul, zneg, zb_e0, zb_e1, boo0, boo1, ua_s, ua_n, ua_ua, up_s, u2_s, u2_f, u2_c, u2_u2, Int.natCast_add, Int.zero_add, Int.add_zero, ↓reduceIte, ne_eq, not_true_eq_false, not_false_eq_true, Int.natCast_one, ↓k_X11_shakes_0, ↓k_X11_shakes_62, ↓k_X11_shakes_66, ↓mc_59, ↓zg_59_22, ↓zg_59_45, zl_79, zs_79, ↓zn_79, ↓zg_59_43, zl_77, zs_77, ↓zn_77, ↓zg_59_24, hn, hf, gj, e2]
      · have e1 : shkN R (A 77) (j + 1) = shkN R (A 77) j := if_neg q
        rw [zb_f q] at gj
        rw [e1]
        simp (implicitDefEqProofs := false) (disch := omega) only [↓rI_s, ↓rV_s, ↓rI_e, ↓rV_e, zc_eq, zc_ne, zc_lt, zc_ge, zc_gt, zc_le, zlt_t, zlt_f, zle_t, zle_f, zeq_t, zeq_f, lz, zadd, zsub, zmul, zneg, zb_e0, zb_e1, boo0, boo1, ua_s, ua_n, ua_ua, up_s, u2_s, u2_f, u2_c, u2_u2, Int.natCast_add, Int.zero_add, Int.add_zero, ↓reduceIte, ne_eq, not_true_eq_false, not_false_eq_true, Int.natCast_one, ↓k_X11_shakes_0, ↓k_X11_shakes_62, ↓k_X11_shakes_66, ↓mc_59, ↓zg_59_22, ↓zg_59_45, zl_79, zs_79, ↓zn_79, ↓zg_59_43, zl_77, zs_77, ↓zn_77, ↓zg_59_24, hn, gj]
  · rw [zb_f q] at e ⊢
    refine ⟨ua A 79 g, fr.refl.a rfl, ?_, ?_⟩
    · have hno := hz.mp (Decidable.of_not_not q)
      have key : ∀ j : Nat, j ≤ rW R → shkN R (A 77) j = A 77 := by
        intro j
        induction j with
        | zero => intro _; rfl
        | succ j ih =>
          intro hj
          have : shkN R (A 77) (j + 1) = shkN R (A 77) j := if_neg fun q => hno j (by omega) (decide_eq_true q)
          rw [this]; exact ih (by omega)
      rw [ua_n (by decide)]; exact (key _ (Nat.le_refl _)).symm
    · simp (implicitDefEqProofs := false) (disch := omega) only [↓rI_s, ↓rV_s, ↓rI_e, ↓rV_e, zc_eq, zc_ne, zc_lt, zc_ge, zc_gt, zc_le, zlt_t, zlt_f, zle_t, zle_f, zeq_t, zeq_f, lz, zadd, zsub, zmul, zneg, zb_e0, zb_e1, boo0, boo1, ua_s, ua_n, ua_ua, up_s, u2_s, u2_f, u2_c, u2_u2, Int.natCast_add, Int.zero_add, Int.add_zero, ↓reduceIte, ne_eq, not_true_eq_false, not_false_eq_true, Int.natCast_one, ↓k_X11_shakes_0, ↓k_X11_shakes_62, ↓k_X11_shakes_66, ↓mc_59, ↓zg_59_22, ↓zg_59_45, zl_79, zs_79, ↓zn_79, ↓zg_59_43, zl_77, zs_77, ↓zn_77, ↓zg_59_24, e]
theorem m_passes (hd : 3 ≤ d) (hR : mR R I A) (hV : sV R (A 77)) : q_call q_MT d 221 [.ref 59] (zM I A W) = some (.inl none, zM I (ua A 77 (pas R (A 77))) W) := by
  obtain ⟨d, rfl⟩ : ∃ e, d = e + 1 := ⟨d - 1, by omega⟩
  have hw := hR.1.2.1
  have h5 := hR.1.1
  have hn := hR.2.2.1
  have hf2 := hR.1.2.2.2.2.1
  rw [cl_X11_passes]
  simp (implicitDefEqProofs := false) (disch := omega) only [↓rI_s, ↓rV_s, ↓rI_e, ↓rV_e, zc_eq, zc_ne, zc_lt, zc_ge, zc_gt, zc_le, zlt_t, zlt_f, zle_t, zle_f, zeq_t, zeq_f, lz, zadd, zsub, zmul, zneg, zb_e0, zb_e1, boo0, boo1, ua_s, ua_n, ua_ua, up_s, u2_s, u2_f, u2_c, u2_u2, Int.natCast_add, Int.zero_add, Int.add_zero, ↓reduceIte, ne_eq, not_true_eq_false, not_false_eq_true, Int.natCast_one, ↓k_X11_passes_0]
  have hid : ua A 77 (pssN R (A 77) 0) = A := ua_id
  conv => lhs; rw [← hid]
  refine lp_x (fun j (_ : Unit) => q_run qm_X11_passes (q_call q_MT d) 2 [.ref 59, .int (zI j)] [] (zM I (ua A 77 (pssN R (A 77) j)) W)) (fun j _ => True) (fun r => r = _) (rW R) ?_ ?_ 0 () (by omega) trivial
  · intro _ _
    rw [k_X11_passes_2]
    simp (implicitDefEqProofs := false) (disch := omega) only [↓rI_s, ↓rV_s, ↓rI_e, ↓rV_e, zc_eq, zc_ne, zc_lt, zc_ge, zc_gt, zc_le, zlt_t, zlt_f, zle_t, zle_f, zeq_t, zeq_f, lz, zadd, zsub, zmul, zneg, zb_e0, zb_e1, boo0, boo1, ua_s, ua_n, ua_ua, up_s, u2_s, u2_f, u2_c, u2_u2, Int.natCast_add, Int.zero_add, Int.add_zero, ↓reduceIte, ne_eq, not_true_eq_false, not_false_eq_true, Int.natCast_one, ↓k_X11_passes_0, ↓k_X11_passes_109, ↓zg_59_22, ↓zg_59_43, zl_77, zs_77, ↓zn_77, ↓mc_59, ↓zg_59_14, zl_66, zs_66, ↓zn_66, hn, Int.le_refl]
    rfl
  · intro j _ hj _
    refine .inr ⟨(), trivial, ?_⟩
    have vj := (pss_i hV hR.1 j (by omega)).1
    have bj := vj.1.b hR.1 j (by omega) (by omega)
    have ow := hR.1.o (w := j) (by omega) (by omega)
    have eo := hR.2.2.2.2.2.2.1 j (by omega) (by omega)
    have po := vj.2.2.2.2 (rO R j) ow.1 ow.2
    have hRj : mR R I (ua A 77 (pssN R (A 77) j)) := hR.fr (L := [77]) (fr.refl.a rfl) rfl
    have ov := over_b' hR.1 vj.1 (w := j) (by omega) (by omega)
    show _ = q_run qm_X11_passes (q_call q_MT d) 2 [.ref 59, .int (zI ((j + 1 : Nat) : Int))] [] (zM I (ua A 77 (pss R (pssN R (A 77) j) j)) W)
    generalize pssN R (A 77) j = s at *
    rw [k_X11_passes_2]
    unfold pss
    by_cases q1 : s j < 0
    · rw [if_pos (show s j < 0 ∨ over R s j = 0 ∨ s (40 + rO R j) = 0 from .inl q1)]
      simp (implicitDefEqProofs := false) (disch := omega) only [↓rI_s, ↓rV_s, ↓rI_e, ↓rV_e, zc_eq, zc_ne, zc_lt, zc_ge, zc_gt, zc_le, zlt_t, zlt_f, zle_t, zle_f, zeq_t, zeq_f, lz, zadd, zsub, zmul, zneg, zb_e0, zb_e1, boo0, boo1, ua_s, ua_n, ua_ua, up_s, u2_s, u2_f, u2_c, u2_u2, Int.natCast_add, Int.zero_add, Int.add_zero, ↓reduceIte, ne_eq, not_true_eq_false, not_false_eq_true, Int.natCast_one, ↓k_X11_passes_0, ↓k_X11_passes_109, ↓zg_59_22, ↓zg_59_43, zl_77, zs_77, ↓zn_77, ↓mc_59, ↓zg_59_14, zl_66, zs_66, ↓zn_66, hn]
    · simp (implicitDefEqProofs := false) (disch := omega) only [↓rI_s, ↓rV_s, ↓rI_e, ↓rV_e, zc_eq, zc_ne, zc_lt, zc_ge, zc_gt, zc_le, zlt_t, zlt_f, zle_t, zle_f, zeq_t, zeq_f, lz, zadd, zsub, zmul, zneg, zb_e0, zb_e1, boo0, boo1, ua_s, ua_n, ua_ua, up_s, u2_s, u2_f, u2_c, u2_u2, Int.natCast_add, Int.zero_add, Int.add_zero, ↓reduceIte, ne_eq, not_true_eq_false, not_false_eq_true, Int.natCast_one, ↓zg_59_22, hn, ↓zg_59_43, zl_77, ↓mc_59]
      rw [m_over (by omega) hRj (vj.1.b hR.1) (by omega) (by omega), ua_s]
      by_cases q2 : over R s j = 0
      · rw [if_pos (show s j < 0 ∨ over R s j = 0 ∨ s (40 + rO R j) = 0 from .inr (.inl q2))]
        simp (implicitDefEqProofs := false) (disch := omega) only [↓rI_s, ↓rV_s, ↓rI_e, ↓rV_e, zc_eq, zc_ne, zc_lt, zc_ge, zc_gt, zc_le, zlt_t, zlt_f, zle_t, zle_f, zeq_t, zeq_f, lz, zadd, zsub, zmul, zneg, zb_e0, zb_e1, boo0, boo1, ua_s, ua_n, ua_ua, up_s, u2_s, u2_f, u2_c, u2_u2, Int.natCast_add, Int.zero_add, Int.add_zero, ↓reduceIte, ne_eq, not_true_eq_false, not_false_eq_true, Int.natCast_one, ↓k_X11_passes_0, ↓k_X11_passes_109, ↓zg_59_22, ↓zg_59_43, zl_77, zs_77, ↓zn_77, ↓mc_59, ↓zg_59_14, zl_66, zs_66, ↓zn_66, q2]
      · by_cases q3 : s (40 + rO R j) = 0
        · rw [if_pos (show s j < 0 ∨ over R s j = 0 ∨ s (40 + rO R j) = 0 from .inr (.inr q3))]
          simp (implicitDefEqProofs := false) (disch := omega) only [↓rI_s, ↓rV_s, ↓rI_e, ↓rV_e, zc_eq, zc_ne, zc_lt, zc_ge, zc_gt, zc_le, zlt_t, zlt_f, zle_t, zle_f, zeq_t, zeq_f, lz, zadd, zsub, zmul, zneg, zb_e0, zb_e1, boo0, boo1, ua_s, ua_n, ua_ua, up_s, u2_s, u2_f, u2_c, u2_u2, Int.natCast_add, Int.zero_add, Int.add_zero, ↓reduceIte, ne_eq, not_true_eq_false, not_false_eq_true, Int.natCast_one, ↓k_X11_passes_0, ↓k_X11_passes_109, ↓zg_59_22, ↓zg_59_43, zl_77, zs_77, ↓zn_77, ↓mc_59, ↓zg_59_14, zl_66, zs_66, ↓zn_66, eo, q3]
        · rw [if_neg (show ¬ (s j < 0 ∨ over R s j = 0 ∨ s (40 + rO R j) = 0) by omega)]
          obtain ⟨t, ht, ew, -, -⟩ := who_at vj hR.1 (w := j) (by omega) (by omega) (by omega)
          have ot := hR.1.o (w := t) (by omega) (by omega)
          have et := hR.2.2.2.2.2.2.1 t (by omega) (by omega)
          have pt := vj.2.2.2.2 (rO R t) ot.1 ot.2
          have m0 := many_lo R s (s j)
          have m1 := many_hi R s (s j)
          simp (implicitDefEqProofs := false) (disch := omega) only [↓rI_s, ↓rV_s, ↓rI_e, ↓rV_e, zc_eq, zc_ne, zc_lt, zc_ge, zc_gt, zc_le, zlt_t, zlt_f, zle_t, zle_f, zeq_t, zeq_f, lz, zadd, zsub, zmul, zneg, zb_e0, zb_e1, boo0, boo1, ua_s, ua_n, ua_ua, up_s, u2_s, u2_f, u2_c, u2_u2, Int.natCast_add, Int.zero_add, Int.add_zero, ↓reduceIte, ne_eq, not_true_eq_false, not_false_eq_true, Int.natCast_one, ↓k_X11_passes_0, ↓k_X11_passes_109, ↓zg_59_22, ↓zg_59_43, zl_77, zs_77, ↓zn_77, ↓mc_59, ↓zg_59_14, zl_66, zs_66, ↓zn_66, eo, up_n (j' := (j : Int))]
          have hR3 : mR R I (ua A 77 (up s (40 + rO R j) (s (40 + rO R j) - 1))) := hR.fr (L := [77]) (fr.refl.a rfl) rfl
          have hs3 : sB R (ua A 77 (up s (40 + rO R j) (s (40 + rO R j) - 1)) 77) := fun v v0 v1 => by
            rw [ua_s, up_n (by omega), up_n (by omega)]; exact vj.1.b hR.1 v v0 v1
          rw [m_manyAt (by omega) hR3 hs3 (by omega) (by omega), ua_s, many_cg (t := s) (fun v v0 v1 => up_n (by omega))]
          simp (implicitDefEqProofs := false) (disch := omega) only [↓rI_s, ↓rV_s, ↓rI_e, ↓rV_e, zc_eq, zc_ne, zc_lt, zc_ge, zc_gt, zc_le, zlt_t, zlt_f, zle_t, zle_f, zeq_t, zeq_f, lz, zadd, zsub, zmul, zneg, zb_e0, zb_e1, boo0, boo1, ua_s, ua_n, ua_ua, up_s, u2_s, u2_f, u2_c, u2_u2, Int.natCast_add, Int.zero_add, Int.add_zero, ↓reduceIte, ne_eq, not_true_eq_false, not_false_eq_true, Int.natCast_one, ↓k_X11_passes_0, ↓k_X11_passes_109, ↓zg_59_22, ↓zg_59_43, zl_77, zs_77, ↓zn_77, ↓mc_59, ↓zg_59_14, zl_66, zs_66, ↓zn_66]
          rw [m_whoAt (by omega) hR3 hs3 (by omega) (by omega), ua_s, who_cg (t := s) (fun v v0 v1 => up_n (by omega)) (fun v v0 v1 => up_n (by omega)), ew]
          simp (implicitDefEqProofs := false) (disch := omega) only [↓rI_s, ↓rV_s, ↓rI_e, ↓rV_e, zc_eq, zc_ne, zc_lt, zc_ge, zc_gt, zc_le, zlt_t, zlt_f, zle_t, zle_f, zeq_t, zeq_f, lz, zadd, zsub, zmul, zneg, zb_e0, zb_e1, boo0, boo1, ua_s, ua_n, ua_ua, up_s, u2_s, u2_f, u2_c, u2_u2, Int.natCast_add, Int.zero_add, Int.add_zero, ↓reduceIte, ne_eq, not_true_eq_false, not_false_eq_true, Int.natCast_one, ↓k_X11_passes_0, ↓k_X11_passes_109, ↓zg_59_22, ↓zg_59_43, zl_77, zs_77, ↓zn_77, ↓mc_59, ↓zg_59_14, zl_66, zs_66, ↓zn_66, et]
          rw [m_earns (by omega) ot.1 (by omega) (by decide) (by rw [ua_s]; unfold up; split <;> omega)]
          simp (implicitDefEqProofs := false) (disch := omega) only [↓rI_s, ↓rV_s, ↓rI_e, ↓rV_e, zc_eq, zc_ne, zc_lt, zc_ge, zc_gt, zc_le, zlt_t, zlt_f, zle_t, zle_f, zeq_t, zeq_f, lz, zadd, zsub, zmul, zneg, zb_e0, zb_e1, boo0, boo1, ua_s, ua_n, ua_ua, up_s, u2_s, u2_f, u2_c, u2_u2, Int.natCast_add, Int.zero_add, Int.add_zero, ↓reduceIte, ne_eq, not_true_eq_false, not_false_eq_true, Int.natCast_one, ↓k_X11_passes_0, ↓k_X11_passes_109, ↓zg_59_22, ↓zg_59_43, zl_77, zs_77, ↓zn_77, ↓mc_59, ↓zg_59_14, zl_66, zs_66, ↓zn_66]
end MM
