--DEPS 91.undo
/-! The reference's plays and images. -/
theorem uc_st {f g : Int → Int} {sp dp : Int} {j : Nat} : up (uc f g sp dp j) (dp + j) (f (sp + j)) = uc f g sp dp ((j : Int) + 1) := by
  funext i
  unfold up uc
  by_cases e : i = dp + j
  · rw [if_pos e, if_pos (by omega), e, show sp + (dp + (j : Int) - dp) = sp + j by omega]
  · rw [if_neg e]
    by_cases c : dp ≤ i ∧ i < dp + j
    · rw [if_pos c, if_pos (by omega)]
    · rw [if_neg c, if_neg (by omega)]
theorem uc_0 {f g : Int → Int} {sp dp : Int} : uc f g sp dp 0 = g := funext fun i => if_neg (by omega)
section UM
variable {d : Nat} {I : Nat → Nat → Int} {A : Nat → Int → Int} {W : qWt} {R : zR} {F : zF} {s : Int → Int} {l : zL} {r : zG}
theorem m_keeps76 {q : Int} (hd : 1 ≤ d) (h0 : 0 ≤ q) (h1 : q + 47 ≤ 2400) : q_call q_MT d 275 [.ref 59, .int (zI q), .ref 76, .int (zI 47), .int (zI 1)] (zM I A W) = some (.inl (some (.int (zI (q + 47)))), zM I (ua A 88 (uc (A 76) (A 88) 0 q 47)) W) := by
  obtain ⟨d, rfl⟩ : ∃ e, d = e + 1 := ⟨d - 1, by omega⟩
  rw [cl_X11_keepsRow]
  simp (implicitDefEqProofs := false) (disch := omega) only [↓rI_s, ↓rV_s, ↓rI_e, ↓rV_e, zc_eq, zc_ne, zc_lt, zc_ge, zc_gt, zc_le, zlt_t, zlt_f, zle_t, zle_f, zeq_t, zeq_f, lz, zadd, zsub, zmul, zneg, zb_e0, zb_e1, boo0, boo1, ua_s, ua_n, ua_ua, up_s, u2_s, u2_f, u2_c, u2_u2, Int.natCast_add, Int.zero_add, Int.add_zero, ↓reduceIte, ne_eq, not_true_eq_false, not_false_eq_true, Int.natCast_one, ↓k_X11_keepsRow_0]
  have hid : zM I A W = zM I (ua A 88 (uc (A 76) (A 88) 0 q ((0 : Nat) : Int))) W := by rw [Int.natCast_zero, uc_0, ua_id]
  rw [hid]
  refine lp_x (fun j (_ : Unit) => q_run qm_X11_keepsRow (q_call q_MT d) 3 [.ref 59, .int (zI q), .ref 76, .int (zI 47), .int (zI 1), .int (zI j)] [] (zM I (ua A 88 (uc (A 76) (A 88) 0 q j)) W)) (fun _ _ => True) (fun r => r = _) 47 ?_ ?_ 0 () (by omega) trivial
  · intro _ _
    rw [k_X11_keepsRow_3]
    simp (implicitDefEqProofs := false) (disch := omega) only [↓rI_s, ↓rV_s, ↓rI_e, ↓rV_e, zc_eq, zc_ne, zc_lt, zc_ge, zc_gt, zc_le, zlt_t, zlt_f, zle_t, zle_f, zeq_t, zeq_f, lz, zadd, zsub, zmul, zneg, zb_e0, zb_e1, boo0, boo1, ua_s, ua_n, ua_ua, up_s, u2_s, u2_f, u2_c, u2_u2, Int.natCast_add, Int.zero_add, Int.add_zero, ↓reduceIte, ne_eq, not_true_eq_false, not_false_eq_true, Int.natCast_one, Int.le_refl]
    rfl
  · intro j _ hj _
    refine .inr ⟨(), trivial, ?_⟩
    rw [k_X11_keepsRow_3]
    have es := uc_st (f := A 76) (g := A 88) (sp := 0) (dp := q) (j := j)
    rw [Int.zero_add] at es
    simp (implicitDefEqProofs := false) (disch := omega) only [↓rI_s, ↓rV_s, ↓rI_e, ↓rV_e, zc_eq, zc_ne, zc_lt, zc_ge, zc_gt, zc_le, zlt_t, zlt_f, zle_t, zle_f, zeq_t, zeq_f, lz, zadd, zsub, zmul, zneg, zb_e0, zb_e1, boo0, boo1, ua_s, ua_n, ua_ua, up_s, u2_s, u2_f, u2_c, u2_u2, Int.natCast_add, Int.zero_add, Int.add_zero, ↓reduceIte, ne_eq, not_true_eq_false, not_false_eq_true, Int.natCast_one, ↓zg_59_60, zl_76, zs_88, ↓k_X11_keepsRow_43, es]
theorem m_loads76 {q : Int} (hd : 1 ≤ d) (h0 : 0 ≤ q) (h1 : q + 47 ≤ 2400) : q_call q_MT d 275 [.ref 59, .int (zI q), .ref 76, .int (zI 47), .int (zI 0)] (zM I A W) = some (.inl (some (.int (zI (q + 47)))), zM I (ua A 76 (uc (A 88) (A 76) q 0 47)) W) := by
  obtain ⟨d, rfl⟩ : ∃ e, d = e + 1 := ⟨d - 1, by omega⟩
  rw [cl_X11_keepsRow]
  simp (implicitDefEqProofs := false) (disch := omega) only [↓rI_s, ↓rV_s, ↓rI_e, ↓rV_e, zc_eq, zc_ne, zc_lt, zc_ge, zc_gt, zc_le, zlt_t, zlt_f, zle_t, zle_f, zeq_t, zeq_f, lz, zadd, zsub, zmul, zneg, zb_e0, zb_e1, boo0, boo1, ua_s, ua_n, ua_ua, up_s, u2_s, u2_f, u2_c, u2_u2, Int.natCast_add, Int.zero_add, Int.add_zero, ↓reduceIte, ne_eq, not_true_eq_false, not_false_eq_true, Int.natCast_one, ↓k_X11_keepsRow_0]
  have hid : zM I A W = zM I (ua A 76 (uc (A 88) (A 76) q 0 ((0 : Nat) : Int))) W := by rw [Int.natCast_zero, uc_0, ua_id]
  rw [hid]
  refine lp_x (fun j (_ : Unit) => q_run qm_X11_keepsRow (q_call q_MT d) 3 [.ref 59, .int (zI q), .ref 76, .int (zI 47), .int (zI 0), .int (zI j)] [] (zM I (ua A 76 (uc (A 88) (A 76) q 0 j)) W)) (fun _ _ => True) (fun r => r = _) 47 ?_ ?_ 0 () (by omega) trivial
  · intro _ _
    rw [k_X11_keepsRow_3]
    simp (implicitDefEqProofs := false) (disch := omega) only [↓rI_s, ↓rV_s, ↓rI_e, ↓rV_e, zc_eq, zc_ne, zc_lt, zc_ge, zc_gt, zc_le, zlt_t, zlt_f, zle_t, zle_f, zeq_t, zeq_f, lz, zadd, zsub, zmul, zneg, zb_e0, zb_e1, boo0, boo1, ua_s, ua_n, ua_ua, up_s, u2_s, u2_f, u2_c, u2_u2, Int.natCast_add, Int.zero_add, Int.add_zero, ↓reduceIte, ne_eq, not_true_eq_false, not_false_eq_true, Int.natCast_one, Int.le_refl]
    rfl
  · intro j _ hj _
    refine .inr ⟨(), trivial, ?_⟩
    rw [k_X11_keepsRow_3]
    have es := uc_st (f := A 88) (g := A 76) (sp := q) (dp := 0) (j := j)
    rw [Int.zero_add] at es
    simp (implicitDefEqProofs := false) (disch := omega) only [↓rI_s, ↓rV_s, ↓rI_e, ↓rV_e, zc_eq, zc_ne, zc_lt, zc_ge, zc_gt, zc_le, zlt_t, zlt_f, zle_t, zle_f, zeq_t, zeq_f, lz, zadd, zsub, zmul, zneg, zb_e0, zb_e1, boo0, boo1, ua_s, ua_n, ua_ua, up_s, u2_s, u2_f, u2_c, u2_u2, Int.natCast_add, Int.zero_add, Int.add_zero, ↓reduceIte, ne_eq, not_true_eq_false, not_false_eq_true, Int.natCast_one, ↓zg_59_60, zl_88, zs_76, ↓k_X11_keepsRow_43, es]
theorem m_keeps78 {q : Int} (hd : 1 ≤ d) (h0 : 0 ≤ q) (h1 : q + 752 ≤ 2400) : q_call q_MT d 275 [.ref 59, .int (zI q), .ref 78, .int (zI 752), .int (zI 1)] (zM I A W) = some (.inl (some (.int (zI (q + 752)))), zM I (ua A 88 (uc (A 78) (A 88) 0 q 752)) W) := by
  obtain ⟨d, rfl⟩ : ∃ e, d = e + 1 := ⟨d - 1, by omega⟩
  rw [cl_X11_keepsRow]
  simp (implicitDefEqProofs := false) (disch := omega) only [↓rI_s, ↓rV_s, ↓rI_e, ↓rV_e, zc_eq, zc_ne, zc_lt, zc_ge, zc_gt, zc_le, zlt_t, zlt_f, zle_t, zle_f, zeq_t, zeq_f, lz, zadd, zsub, zmul, zneg, zb_e0, zb_e1, boo0, boo1, ua_s, ua_n, ua_ua, up_s, u2_s, u2_f, u2_c, u2_u2, Int.natCast_add, Int.zero_add, Int.add_zero, ↓reduceIte, ne_eq, not_true_eq_false, not_false_eq_true, Int.natCast_one, ↓k_X11_keepsRow_0]
  have hid : zM I A W = zM I (ua A 88 (uc (A 78) (A 88) 0 q ((0 : Nat) : Int))) W := by rw [Int.natCast_zero, uc_0, ua_id]
  rw [hid]
  refine lp_x (fun j (_ : Unit) => q_run qm_X11_keepsRow (q_call q_MT d) 3 [.ref 59, .int (zI q), .ref 78, .int (zI 752), .int (zI 1), .int (zI j)] [] (zM I (ua A 88 (uc (A 78) (A 88) 0 q j)) W)) (fun _ _ => True) (fun r => r = _) 752 ?_ ?_ 0 () (by omega) trivial
  · intro _ _
    rw [k_X11_keepsRow_3]
    simp (implicitDefEqProofs := false) (disch := omega) only [↓rI_s, ↓rV_s, ↓rI_e, ↓rV_e, zc_eq, zc_ne, zc_lt, zc_ge, zc_gt, zc_le, zlt_t, zlt_f, zle_t, zle_f, zeq_t, zeq_f, lz, zadd, zsub, zmul, zneg, zb_e0, zb_e1, boo0, boo1, ua_s, ua_n, ua_ua, up_s, u2_s, u2_f, u2_c, u2_u2, Int.natCast_add, Int.zero_add, Int.add_zero, ↓reduceIte, ne_eq, not_true_eq_false, not_false_eq_true, Int.natCast_one, Int.le_refl]
    rfl
  · intro j _ hj _
    refine .inr ⟨(), trivial, ?_⟩
    rw [k_X11_keepsRow_3]
    have es := uc_st (f := A 78) (g := A 88) (sp := 0) (dp := q) (j := j)
    rw [Int.zero_add] at es
    simp (implicitDefEqProofs := false) (disch := omega) only [↓rI_s, ↓rV_s, ↓rI_e, ↓rV_e, zc_eq, zc_ne, zc_lt, zc_ge, zc_gt, zc_le, zlt_t, zlt_f, zle_t, zle_f, zeq_t, zeq_f, lz, zadd, zsub, zmul, zneg, zb_e0, zb_e1, boo0, boo1, ua_s, ua_n, ua_ua, up_s, u2_s, u2_f, u2_c, u2_u2, Int.natCast_add, Int.zero_add, Int.add_zero, ↓reduceIte, ne_eq, not_true_eq_false, not_false_eq_true, Int.natCast_one, ↓zg_59_60, zl_78, zs_88, ↓k_X11_keepsRow_43, es]
theorem m_loads78 {q : Int} (hd : 1 ≤ d) (h0 : 0 ≤ q) (h1 : q + 752 ≤ 2400) : q_call q_MT d 275 [.ref 59, .int (zI q), .ref 78, .int (zI 752), .int (zI 0)] (zM I A W) = some (.inl (some (.int (zI (q + 752)))), zM I (ua A 78 (uc (A 88) (A 78) q 0 752)) W) := by
  obtain ⟨d, rfl⟩ : ∃ e, d = e + 1 := ⟨d - 1, by omega⟩
  rw [cl_X11_keepsRow]
  simp (implicitDefEqProofs := false) (disch := omega) only [↓rI_s, ↓rV_s, ↓rI_e, ↓rV_e, zc_eq, zc_ne, zc_lt, zc_ge, zc_gt, zc_le, zlt_t, zlt_f, zle_t, zle_f, zeq_t, zeq_f, lz, zadd, zsub, zmul, zneg, zb_e0, zb_e1, boo0, boo1, ua_s, ua_n, ua_ua, up_s, u2_s, u2_f, u2_c, u2_u2, Int.natCast_add, Int.zero_add, Int.add_zero, ↓reduceIte, ne_eq, not_true_eq_false, not_false_eq_true, Int.natCast_one, ↓k_X11_keepsRow_0]
  have hid : zM I A W = zM I (ua A 78 (uc (A 88) (A 78) q 0 ((0 : Nat) : Int))) W := by rw [Int.natCast_zero, uc_0, ua_id]
  rw [hid]
  refine lp_x (fun j (_ : Unit) => q_run qm_X11_keepsRow (q_call q_MT d) 3 [.ref 59, .int (zI q), .ref 78, .int (zI 752), .int (zI 0), .int (zI j)] [] (zM I (ua A 78 (uc (A 88) (A 78) q 0 j)) W)) (fun _ _ => True) (fun r => r = _) 752 ?_ ?_ 0 () (by omega) trivial
  · intro _ _
    rw [k_X11_keepsRow_3]
    simp (implicitDefEqProofs := false) (disch := omega) only [↓rI_s, ↓rV_s, ↓rI_e, ↓rV_e, zc_eq, zc_ne, zc_lt, zc_ge, zc_gt, zc_le, zlt_t, zlt_f, zle_t, zle_f, zeq_t, zeq_f, lz, zadd, zsub, zmul, zneg, zb_e0, zb_e1, boo0, boo1, ua_s, ua_n, ua_ua, up_s, u2_s, u2_f, u2_c, u2_u2, Int.natCast_add, Int.zero_add, Int.add_zero, ↓reduceIte, ne_eq, not_true_eq_false, not_false_eq_true, Int.natCast_one, Int.le_refl]
    rfl
  · intro j _ hj _
    refine .inr ⟨(), trivial, ?_⟩
    rw [k_X11_keepsRow_3]
    have es := uc_st (f := A 88) (g := A 78) (sp := q) (dp := 0) (j := j)
    rw [Int.zero_add] at es
    simp (implicitDefEqProofs := false) (disch := omega) only [↓rI_s, ↓rV_s, ↓rI_e, ↓rV_e, zc_eq, zc_ne, zc_lt, zc_ge, zc_gt, zc_le, zlt_t, zlt_f, zle_t, zle_f, zeq_t, zeq_f, lz, zadd, zsub, zmul, zneg, zb_e0, zb_e1, boo0, boo1, ua_s, ua_n, ua_ua, up_s, u2_s, u2_f, u2_c, u2_u2, Int.natCast_add, Int.zero_add, Int.add_zero, ↓reduceIte, ne_eq, not_true_eq_false, not_false_eq_true, Int.natCast_one, ↓zg_59_60, zl_88, zs_78, ↓k_X11_keepsRow_43, es]
theorem M_undo (hd : 2 ≤ d) (hl : I 59 37 = l.length) (h16 : l.length ≤ 16) (h : mC (A 78) l) : match l with
    | [] => q_call q_MT d 225 [.ref 59] (zM I A W) = some (.inl (some (.int (zI (-1)))), zM (u2 I 59 0 0) A W)
    | s :: l => ∃ g, (∀ k : Int, 0 ≤ k → k < 47 → g k = s k) ∧ q_call q_MT d 225 [.ref 59] (zM I A W) = some (.inl (some (.int (zI l.length))), zM (u2 (u2 (u2 I 59 0 0) 59 37 l.length) 59 38 0) (ua A 76 g) W) := by
  obtain ⟨d, rfl⟩ : ∃ e, d = e + 1 := ⟨d - 1, by omega⟩
  rw [cl_X11_undo, k_X11_undo_0]
  cases l with
  | nil =>
    dsimp only
    have hl : I 59 37 = 0 := hl
    simp (implicitDefEqProofs := false) (disch := omega) only [↓rI_s, ↓rV_s, ↓rI_e, ↓rV_e, zc_eq, zc_ne, zc_lt, zc_ge, zc_gt, zc_le, zlt_t, zlt_f, zle_t, zle_f, zeq_t, zeq_f, lz, zadd, zsub, zmul, zneg, zb_e0, zb_e1, boo0, boo1, ua_s, ua_n, ua_ua, up_s, u2_s, u2_f, u2_c, u2_u2, Int.natCast_add, Int.zero_add, Int.add_zero, ↓reduceIte, ne_eq, not_true_eq_false, not_false_eq_true, Int.natCast_one, ↓zp_59_0, ↓zg_59_37, hl]
  | cons s l =>
    dsimp only
    have e1 : ((s :: l).length : Int) = l.length + 1 := by simp
    have e2 : (s :: l).length = l.length + 1 := by simp
    rw [e1] at hl
    rw [e2] at h16
    have e3 : (l.length : Int) + 1 - 1 = l.length := by omega
    obtain ⟨h1, h2⟩ := h
    simp (implicitDefEqProofs := false) (disch := omega) only [↓rI_s, ↓rV_s, ↓rI_e, ↓rV_e, zc_eq, zc_ne, zc_lt, zc_ge, zc_gt, zc_le, zlt_t, zlt_f, zle_t, zle_f, zeq_t, zeq_f, lz, zadd, zsub, zmul, zneg, zb_e0, zb_e1, boo0, boo1, ua_s, ua_n, ua_ua, up_s, u2_s, u2_f, u2_c, u2_u2, Int.natCast_add, Int.zero_add, Int.add_zero, ↓reduceIte, ne_eq, not_true_eq_false, not_false_eq_true, Int.natCast_one, ↓zp_59_0, ↓zg_59_37, hl, ↓zp_59_37, e3]
    have hid : ua A 76 (A 76) = A := ua_id
    conv => enter [1, g, 2, 1]; rw [← hid]
    refine lp_x (fun j (g : Int → Int) => q_run qm_X11_undo (q_call q_MT d) 26 [.ref 59, .int (zI j)] [] (zM (u2 (u2 I 59 0 0) 59 37 l.length) (ua A 76 g) W)) (fun j g => ∀ k : Int, 0 ≤ k → k < j → g k = s k) (fun r => ∃ g, (∀ k : Int, 0 ≤ k → k < 47 → g k = s k) ∧ r = some (.inl (some (.int (zI l.length))), zM (u2 (u2 (u2 I 59 0 0) 59 37 l.length) 59 38 0) (ua A 76 g) W)) 47 ?_ ?_ 0 (A 76) (by omega) (fun k k0 k1 => by omega)
    · intro g hg
      refine ⟨g, hg, ?_⟩
      rw [k_X11_undo_26]
      simp (implicitDefEqProofs := false) (disch := omega) only [↓rI_s, ↓rV_s, ↓rI_e, ↓rV_e, zc_eq, zc_ne, zc_lt, zc_ge, zc_gt, zc_le, zlt_t, zlt_f, zle_t, zle_f, zeq_t, zeq_f, lz, zadd, zsub, zmul, zneg, zb_e0, zb_e1, boo0, boo1, ua_s, ua_n, ua_ua, up_s, u2_s, u2_f, u2_c, u2_u2, Int.natCast_add, Int.zero_add, Int.add_zero, ↓reduceIte, ne_eq, not_true_eq_false, not_false_eq_true, Int.natCast_one, ↓zp_59_38, ↓zg_59_37]
    · intro j g hj hg
      refine .inr ⟨up g j (s j), fun k k0 k1 => ?_, ?_⟩
      · by_cases e : k = j
        · subst e; rw [up_s]
        · rw [up_n e]; exact hg k k0 (by omega)
      · have hp := h1 j (by omega) (by omega)
        rw [k_X11_undo_26]
        simp (implicitDefEqProofs := false) (disch := omega) only [↓rI_s, ↓rV_s, ↓rI_e, ↓rV_e, zc_eq, zc_ne, zc_lt, zc_ge, zc_gt, zc_le, zlt_t, zlt_f, zle_t, zle_f, zeq_t, zeq_f, lz, zadd, zsub, zmul, zneg, zb_e0, zb_e1, boo0, boo1, ua_s, ua_n, ua_ua, up_s, u2_s, u2_f, u2_c, u2_u2, Int.natCast_add, Int.zero_add, Int.add_zero, ↓reduceIte, ne_eq, not_true_eq_false, not_false_eq_true, Int.natCast_one, ↓zg_59_42, ↓zg_59_44, ↓zg_59_37, zl_78, hp, zs_76]
theorem M_image (hd : 3 ≤ d) (hl : I 59 37 = l.length) (h16 : l.length ≤ 16) (h : mC (A 78) l) (hs : ∀ k : Int, 0 ≤ k → k < 47 → A 76 k = s k) (hr : I 59 61 = r.length) (h3 : r.length ≤ 3) (hg : mG (A 88) r) : (r.length = 3 ∧ q_call q_MT d 277 [.ref 59] (zM I A W) = some (.inl (some (.int (zI (-1)))), zM (u2 I 59 0 0) A W)) ∨ (r.length < 3 ∧ ∃ g, mG g ((s, l) :: r) ∧ q_call q_MT d 277 [.ref 59] (zM I A W) = some (.inl (some (.int (zI (r.length + 1)))), zM (u2 (u2 I 59 0 0) 59 61 (r.length + 1)) (ua A 88 g) W)) := by
  obtain ⟨d, rfl⟩ : ∃ e, d = e + 1 := ⟨d - 1, by omega⟩
  rw [cl_X11_image, k_X11_image_0]
  by_cases q : r.length = 3
  · refine .inl ⟨q, ?_⟩
    simp (implicitDefEqProofs := false) (disch := omega) only [↓rI_s, ↓rV_s, ↓rI_e, ↓rV_e, zc_eq, zc_ne, zc_lt, zc_ge, zc_gt, zc_le, zlt_t, zlt_f, zle_t, zle_f, zeq_t, zeq_f, lz, zadd, zsub, zmul, zneg, zb_e0, zb_e1, boo0, boo1, ua_s, ua_n, ua_ua, up_s, u2_s, u2_f, u2_c, u2_u2, Int.natCast_add, Int.zero_add, Int.add_zero, ↓reduceIte, ne_eq, not_true_eq_false, not_false_eq_true, Int.natCast_one, ↓zp_59_0, ↓zg_59_61, hr, q]
  · refine .inr ⟨by omega, up (uc (A 78) (uc (A 76) (A 88) 0 (800 * (r.length : Int)) 47) 0 (800 * (r.length : Int) + 47) 752) (800 * (r.length : Int) + 799) l.length, ?_, ?_⟩
    · refine ⟨fun k k0 k1 => ?_, h.cg (fun k k0 k1 => ?_), h16, ?_, hg.cg (fun k k0 k1 => ?_)⟩
      · rw [up_n (by omega), uc_out (by omega), uc_in (by omega) (by omega), show 0 + (800 * (r.length : Int) + k - 800 * (r.length : Int)) = k by omega]; exact hs k k0 k1
      · rw [up_n (by omega), uc_in (by omega) (by omega), show 0 + (800 * (r.length : Int) + 47 + k - (800 * (r.length : Int) + 47)) = k by omega]
      · rw [up_s]
      · rw [up_n (by omega), uc_out (by omega), uc_out (by omega)]
    · obtain ⟨d, rfl⟩ : ∃ e, d = e + 1 := ⟨d - 1, by omega⟩
      have k1 := m_keeps76 (I := u2 I 59 0 0) (A := A) (W := W) (d := d) (q := 800 * (r.length : Int)) (by omega) (by omega) (by omega)
      have k2 := m_keeps78 (I := u2 I 59 0 0) (A := ua A 88 (uc (A 76) (A 88) 0 (800 * (r.length : Int)) 47)) (W := W) (d := d) (q := 800 * (r.length : Int) + 47) (by omega) (by omega) (by omega)
      rw [ua_ua, ua_s, ua_n (by decide)] at k2
      have ka : q_call q_MT (d + 1) 276 [.ref 59, .int (zI r.length), .int (zI 1)] (zM (u2 I 59 0 0) A W) = some (.inl none, zM (u2 I 59 0 0) (ua A 88 (up (uc (A 78) (uc (A 76) (A 88) 0 (800 * (r.length : Int)) 47) 0 (800 * (r.length : Int) + 47) 752) (800 * (r.length : Int) + 799) l.length)) W) := by
        rw [cl_X11_keepsAll, k_X11_keepsAll_0]
        simp (implicitDefEqProofs := false) (disch := omega) only [↓rI_s, ↓rV_s, ↓rI_e, ↓rV_e, zc_eq, zc_ne, zc_lt, zc_ge, zc_gt, zc_le, zlt_t, zlt_f, zle_t, zle_f, zeq_t, zeq_f, lz, zadd, zsub, zmul, zneg, zb_e0, zb_e1, boo0, boo1, ua_s, ua_n, ua_ua, up_s, u2_s, u2_f, u2_c, u2_u2, Int.natCast_add, Int.zero_add, Int.add_zero, ↓reduceIte, ne_eq, not_true_eq_false, not_false_eq_true, Int.natCast_one, ↓zg_59_42, ↓mc_59, k1, ↓zg_59_44, k2, ↓zg_59_60, ↓zg_59_37, hl, zs_88, ↓k_X11_keepsAll_58]
        rw [show 800 * (r.length : Int) + 47 + 752 = 800 * (r.length : Int) + 799 by omega]
      simp (implicitDefEqProofs := false) (disch := omega) only [↓rI_s, ↓rV_s, ↓rI_e, ↓rV_e, zc_eq, zc_ne, zc_lt, zc_ge, zc_gt, zc_le, zlt_t, zlt_f, zle_t, zle_f, zeq_t, zeq_f, lz, zadd, zsub, zmul, zneg, zb_e0, zb_e1, boo0, boo1, ua_s, ua_n, ua_ua, up_s, u2_s, u2_f, u2_c, u2_u2, Int.natCast_add, Int.zero_add, Int.add_zero, ↓reduceIte, ne_eq, not_true_eq_false, not_false_eq_true, Int.natCast_one, ↓zp_59_0, ↓zg_59_61, hr, ↓mc_59, ka, ↓zp_59_61]
theorem M_restore (hd : 3 ≤ d) (hr : I 59 61 = r.length) (h3 : r.length ≤ 3) (hg : mG (A 88) r) : match r with
    | [] => q_call q_MT d 278 [.ref 59] (zM I A W) = some (.inl (some (.int (zI (-1)))), zM (u2 I 59 0 0) A W)
    | (s, l) :: r => ∃ g p, (∀ k : Int, 0 ≤ k → k < 47 → g k = s k) ∧ mC p l ∧ l.length ≤ 16 ∧ mG (A 88) r ∧ q_call q_MT d 278 [.ref 59] (zM I A W) = some (.inl (some (.int (zI r.length))), zM (u2 (u2 (u2 (u2 I 59 0 0) 59 61 r.length) 59 37 l.length) 59 38 0) (ua (ua A 76 g) 78 p) W) := by
  obtain ⟨d, rfl⟩ : ∃ e, d = e + 1 := ⟨d - 1, by omega⟩
  obtain ⟨d, rfl⟩ : ∃ e, d = e + 1 := ⟨d - 1, by omega⟩
  rw [cl_X11_restore, k_X11_restore_0]
  cases r with
  | nil =>
    dsimp only
    have hr : I 59 61 = 0 := hr
    simp (implicitDefEqProofs := false) (disch := omega) only [↓rI_s, ↓rV_s, ↓rI_e, ↓rV_e, zc_eq, zc_ne, zc_lt, zc_ge, zc_gt, zc_le, zlt_t, zlt_f, zle_t, zle_f, zeq_t, zeq_f, lz, zadd, zsub, zmul, zneg, zb_e0, zb_e1, boo0, boo1, ua_s, ua_n, ua_ua, up_s, u2_s, u2_f, u2_c, u2_u2, Int.natCast_add, Int.zero_add, Int.add_zero, ↓reduceIte, ne_eq, not_true_eq_false, not_false_eq_true, Int.natCast_one, ↓zp_59_0, ↓zg_59_61, hr]
  | cons x r =>
    obtain ⟨s, l⟩ := x
    dsimp only
    have e1 : (((s, l) :: r : zG).length : Int) = r.length + 1 := by simp
    have e2 : ((s, l) :: r : zG).length = r.length + 1 := by simp
    rw [e1] at hr
    rw [e2] at h3
    have e3 : (r.length : Int) + 1 - 1 = r.length := by omega
    obtain ⟨h1, h2, h16, h4, h5⟩ := hg
    refine ⟨uc (A 88) (A 76) (800 * (r.length : Int)) 0 47, uc (A 88) (A 78) (800 * (r.length : Int) + 47) 0 752, fun k k0 k1 => ?_, h2.cg (fun k k0 k1 => ?_), h16, h5, ?_⟩
    · rw [uc_in (by omega) (by omega), show k - 0 = k by omega]; exact h1 k k0 k1
    · rw [uc_in (by omega) (by omega), show k - 0 = k by omega]
    · have k1 := m_loads76 (I := u2 (u2 I 59 0 0) 59 61 r.length) (A := A) (W := W) (d := d) (q := 800 * (r.length : Int)) (by omega) (by omega) (by omega)
      have k2 := m_loads78 (I := u2 (u2 I 59 0 0) 59 61 r.length) (A := ua A 76 (uc (A 88) (A 76) (800 * (r.length : Int)) 0 47)) (W := W) (d := d) (q := 800 * (r.length : Int) + 47) (by omega) (by omega) (by omega)
      rw [ua_n (by decide), ua_n (by decide)] at k2
      have e4 : 800 * (r.length : Int) + 47 + 752 = 800 * (r.length : Int) + 799 := by omega
      have ka : q_call q_MT (d + 1) 276 [.ref 59, .int (zI r.length), .int (zI 0)] (zM (u2 (u2 I 59 0 0) 59 61 r.length) A W) = some (.inl none, zM (u2 (u2 (u2 I 59 0 0) 59 61 r.length) 59 37 l.length) (ua (ua A 76 (uc (A 88) (A 76) (800 * (r.length : Int)) 0 47)) 78 (uc (A 88) (A 78) (800 * (r.length : Int) + 47) 0 752)) W) := by
        rw [cl_X11_keepsAll, k_X11_keepsAll_0]
        simp (implicitDefEqProofs := false) (disch := omega) only [↓rI_s, ↓rV_s, ↓rI_e, ↓rV_e, zc_eq, zc_ne, zc_lt, zc_ge, zc_gt, zc_le, zlt_t, zlt_f, zle_t, zle_f, zeq_t, zeq_f, lz, zadd, zsub, zmul, zneg, zb_e0, zb_e1, boo0, boo1, ua_s, ua_n, ua_ua, up_s, u2_s, u2_f, u2_c, u2_u2, Int.natCast_add, Int.zero_add, Int.add_zero, ↓reduceIte, ne_eq, not_true_eq_false, not_false_eq_true, Int.natCast_one, ↓zg_59_42, ↓mc_59, k1, ↓zg_59_44, k2, e4, ↓zg_59_60, zl_88, h4, ↓zp_59_37, ↓k_X11_keepsAll_58]
      simp (implicitDefEqProofs := false) (disch := omega) only [↓rI_s, ↓rV_s, ↓rI_e, ↓rV_e, zc_eq, zc_ne, zc_lt, zc_ge, zc_gt, zc_le, zlt_t, zlt_f, zle_t, zle_f, zeq_t, zeq_f, lz, zadd, zsub, zmul, zneg, zb_e0, zb_e1, boo0, boo1, ua_s, ua_n, ua_ua, up_s, u2_s, u2_f, u2_c, u2_u2, Int.natCast_add, Int.zero_add, Int.add_zero, ↓reduceIte, ne_eq, not_true_eq_false, not_false_eq_true, Int.natCast_one, ↓zp_59_0, ↓zg_59_61, hr, ↓zp_59_61, e3, ↓mc_59, ka, ↓zp_59_38]
theorem M_status {k : Int} (hd : 2 ≤ d) (hk : wI k) : q_call q_MT d 279 [.ref 59, .int (zI k)] (zM I A W) = some (.inl (some (.int (zI (if k = 0 then A 60 0 else if k = 1 then A 60 1 else -1)))), zM (u2 I 59 0 0) A W) := by
  obtain ⟨d, rfl⟩ : ∃ e, d = e + 1 := ⟨d - 1, by omega⟩
  rw [cl_X11_status, k_X11_status_0]
  by_cases q0 : k = 0
  · subst q0
    rw [if_pos rfl]
    simp (implicitDefEqProofs := false) (disch := omega) only [↓rI_s, ↓rV_s, ↓rI_e, ↓rV_e, zc_eq, zc_ne, zc_lt, zc_ge, zc_gt, zc_le, zlt_t, zlt_f, zle_t, zle_f, zeq_t, zeq_f, lz, zadd, zsub, zmul, zneg, zb_e0, zb_e1, boo0, boo1, ua_s, ua_n, ua_ua, up_s, u2_s, u2_f, u2_c, u2_u2, Int.natCast_add, Int.zero_add, Int.add_zero, ↓reduceIte, ne_eq, not_true_eq_false, not_false_eq_true, Int.natCast_one, ↓zp_59_0, s_within, ↓zg_59_1, zl_60, ↓k_X11_status_24]
  · rw [if_neg q0]
    by_cases q1 : k = 1
    · subst q1
      rw [if_pos rfl]
      simp (implicitDefEqProofs := false) (disch := omega) only [↓rI_s, ↓rV_s, ↓rI_e, ↓rV_e, zc_eq, zc_ne, zc_lt, zc_ge, zc_gt, zc_le, zlt_t, zlt_f, zle_t, zle_f, zeq_t, zeq_f, lz, zadd, zsub, zmul, zneg, zb_e0, zb_e1, boo0, boo1, ua_s, ua_n, ua_ua, up_s, u2_s, u2_f, u2_c, u2_u2, Int.natCast_add, Int.zero_add, Int.add_zero, ↓reduceIte, ne_eq, not_true_eq_false, not_false_eq_true, Int.natCast_one, ↓zp_59_0, s_within, ↓zg_59_1, zl_60, ↓k_X11_status_24]
    · rw [if_neg q1]
      simp (implicitDefEqProofs := false) (disch := omega) only [↓rI_s, ↓rV_s, ↓rI_e, ↓rV_e, zc_eq, zc_ne, zc_lt, zc_ge, zc_gt, zc_le, zlt_t, zlt_f, zle_t, zle_f, zeq_t, zeq_f, lz, zadd, zsub, zmul, zneg, zb_e0, zb_e1, boo0, boo1, ua_s, ua_n, ua_ua, up_s, u2_s, u2_f, u2_c, u2_u2, Int.natCast_add, Int.zero_add, Int.add_zero, ↓reduceIte, ne_eq, not_true_eq_false, not_false_eq_true, Int.natCast_one, ↓zp_59_0, s_within_f, ↓k_X11_status_24]
theorem M_count {k : Int} (hd : 1 ≤ d) (hk : wI k) : q_call q_MT d 280 [.ref 59, .int (zI k)] (zM I A W) = some (.inl (some (.int (zI (if k = 0 then I 59 61 else if k = 1 then I 59 2 else if k = 2 then I 59 37 else -1)))), zM (u2 I 59 0 0) A W) := by
  obtain ⟨d, rfl⟩ : ∃ e, d = e + 1 := ⟨d - 1, by omega⟩
  rw [cl_X11_count, k_X11_count_0]
  by_cases q0 : k = 0
  · subst q0
    rw [if_pos rfl]
    simp (implicitDefEqProofs := false) (disch := omega) only [↓rI_s, ↓rV_s, ↓rI_e, ↓rV_e, zc_eq, zc_ne, zc_lt, zc_ge, zc_gt, zc_le, zlt_t, zlt_f, zle_t, zle_f, zeq_t, zeq_f, lz, zadd, zsub, zmul, zneg, zb_e0, zb_e1, boo0, boo1, ua_s, ua_n, ua_ua, up_s, u2_s, u2_f, u2_c, u2_u2, Int.natCast_add, Int.zero_add, Int.add_zero, ↓reduceIte, ne_eq, not_true_eq_false, not_false_eq_true, Int.natCast_one, ↓zp_59_0, ↓zg_59_61, ↓k_X11_count_41]
  · rw [if_neg q0]
    by_cases q1 : k = 1
    · subst q1
      rw [if_pos rfl]
      simp (implicitDefEqProofs := false) (disch := omega) only [↓rI_s, ↓rV_s, ↓rI_e, ↓rV_e, zc_eq, zc_ne, zc_lt, zc_ge, zc_gt, zc_le, zlt_t, zlt_f, zle_t, zle_f, zeq_t, zeq_f, lz, zadd, zsub, zmul, zneg, zb_e0, zb_e1, boo0, boo1, ua_s, ua_n, ua_ua, up_s, u2_s, u2_f, u2_c, u2_u2, Int.natCast_add, Int.zero_add, Int.add_zero, ↓reduceIte, ne_eq, not_true_eq_false, not_false_eq_true, Int.natCast_one, ↓zp_59_0, ↓zg_59_2, ↓k_X11_count_41]
    · rw [if_neg q1]
      by_cases q2 : k = 2
      · subst q2
        rw [if_pos rfl]
        simp (implicitDefEqProofs := false) (disch := omega) only [↓rI_s, ↓rV_s, ↓rI_e, ↓rV_e, zc_eq, zc_ne, zc_lt, zc_ge, zc_gt, zc_le, zlt_t, zlt_f, zle_t, zle_f, zeq_t, zeq_f, lz, zadd, zsub, zmul, zneg, zb_e0, zb_e1, boo0, boo1, ua_s, ua_n, ua_ua, up_s, u2_s, u2_f, u2_c, u2_u2, Int.natCast_add, Int.zero_add, Int.add_zero, ↓reduceIte, ne_eq, not_true_eq_false, not_false_eq_true, Int.natCast_one, ↓zp_59_0, ↓zg_59_37, ↓k_X11_count_41]
      · rw [if_neg q2]
        simp (implicitDefEqProofs := false) (disch := omega) only [↓rI_s, ↓rV_s, ↓rI_e, ↓rV_e, zc_eq, zc_ne, zc_lt, zc_ge, zc_gt, zc_le, zlt_t, zlt_f, zle_t, zle_f, zeq_t, zeq_f, lz, zadd, zsub, zmul, zneg, zb_e0, zb_e1, boo0, boo1, ua_s, ua_n, ua_ua, up_s, u2_s, u2_f, u2_c, u2_u2, Int.natCast_add, Int.zero_add, Int.add_zero, ↓reduceIte, ne_eq, not_true_eq_false, not_false_eq_true, Int.natCast_one, ↓zp_59_0, ↓k_X11_count_41]
theorem M_fault (hd : 1 ≤ d) : q_call q_MT d 181 [.ref 59] (zM I A W) = some (.inl (some (.int (zI (I 59 8)))), zM (u2 I 59 0 0) A W) := by
  obtain ⟨d, rfl⟩ : ∃ e, d = e + 1 := ⟨d - 1, by omega⟩
  rw [cl_X11_fault]
  simp (implicitDefEqProofs := false) (disch := omega) only [↓rI_s, ↓rV_s, ↓rI_e, ↓rV_e, zc_eq, zc_ne, zc_lt, zc_ge, zc_gt, zc_le, zlt_t, zlt_f, zle_t, zle_f, zeq_t, zeq_f, lz, zadd, zsub, zmul, zneg, zb_e0, zb_e1, boo0, boo1, ua_s, ua_n, ua_ua, up_s, u2_s, u2_f, u2_c, u2_u2, Int.natCast_add, Int.zero_add, Int.add_zero, ↓reduceIte, ne_eq, not_true_eq_false, not_false_eq_true, Int.natCast_one, ↓k_X11_fault_0, zp_59_0, ↓zg_59_8]
end UM
