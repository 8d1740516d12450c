/-! The reference's questions. -/
theorem m_manyAt {d : Nat} {I : Nat → Nat → Int} {A : Nat → Int → Int} {W : qWt} {R : zR} {x : Int} {kx : Nat → Nat → qH → qR} {k : Int32 → qH → qR} (hd : 1 ≤ d) (hR : mR R I A) (hs : ∀ w : Int, 0 ≤ w → w < rW R → -100 ≤ A 77 w ∧ A 77 w ≤ 100) (h0 : -100 ≤ x) (h1 : x ≤ 100) : q_rI (q_call q_MT d 206 [.ref 59, .int (zI x)] (zM I A W)) kx k = k (zI (many R (A 77) x)) (zM I A W) := by
  obtain ⟨d, rfl⟩ : ∃ e, d = e + 1 := ⟨d - 1, by omega⟩
  obtain ⟨⟨-, hw, -⟩, -, hn, -⟩ := hR
  refine cI ?_
  rw [cl_X11_manyAt]
  simp (disch := omega) only [zc_eq, zc_ne, zc_lt, zc_ge, zc_gt, zc_le, zlt_t, zlt_f, zle_t, zle_f, zeq_t, zeq_f, lz, zadd, zsub, zmul, zneg, zb_e0, zb_e1, boo0, boo1, Int.natCast_add, Int.zero_add, Int.add_zero, ↓reduceIte, ne_eq, not_true_eq_false, not_false_eq_true, Int.natCast_one, ↓k_X11_manyAt_0, ↓k_X11_manyAt_30, ↓zg_59_22, ↓zg_59_43, zl_77, zs_77, ↓zn_77]
  refine lp_x (fun j (a : Int) => q_run qm_X11_manyAt (q_call q_MT d) 4 [.ref 59, .int (zI x), .int (zI a), .int (zI j)] [] (zM I A W)) (fun j a => a = cnt j fun w => decide (A 77 w = x)) (fun r => r = _) (rW R) ?_ ?_ 0 0 (by omega) rfl
  · rintro a rfl
    rw [k_X11_manyAt_4]
    simp (disch := omega) only [zc_eq, zc_ne, zc_lt, zc_ge, zc_gt, zc_le, zlt_t, zlt_f, zle_t, zle_f, zeq_t, zeq_f, lz, zadd, zsub, zmul, zneg, zb_e0, zb_e1, boo0, boo1, Int.natCast_add, Int.zero_add, Int.add_zero, ↓reduceIte, ne_eq, not_true_eq_false, not_false_eq_true, Int.natCast_one, ↓k_X11_manyAt_0, ↓k_X11_manyAt_30, ↓zg_59_22, ↓zg_59_43, zl_77, zs_77, ↓zn_77, hn, Int.le_refl]
    rfl
  · rintro j a hj rfl
    have hb := hs j (by omega) (by omega)
    refine .inr ⟨_, rfl, ?_⟩
    rw [k_X11_manyAt_4]
    by_cases h : A 77 j = x
    · simp (disch := omega) only [zc_eq, zc_ne, zc_lt, zc_ge, zc_gt, zc_le, zlt_t, zlt_f, zle_t, zle_f, zeq_t, zeq_f, lz, zadd, zsub, zmul, zneg, zb_e0, zb_e1, boo0, boo1, Int.natCast_add, Int.zero_add, Int.add_zero, ↓reduceIte, ne_eq, not_true_eq_false, not_false_eq_true, Int.natCast_one, ↓k_X11_manyAt_0, ↓k_X11_manyAt_30, ↓zg_59_22, ↓zg_59_43, zl_77, zs_77, ↓zn_77, hn, h]
      rw [cnt_t (decide_eq_true h)]
    · simp (disch := omega) only [zc_eq, zc_ne, zc_lt, zc_ge, zc_gt, zc_le, zlt_t, zlt_f, zle_t, zle_f, zeq_t, zeq_f, lz, zadd, zsub, zmul, zneg, zb_e0, zb_e1, boo0, boo1, Int.natCast_add, Int.zero_add, Int.add_zero, ↓reduceIte, ne_eq, not_true_eq_false, not_false_eq_true, Int.natCast_one, ↓k_X11_manyAt_0, ↓k_X11_manyAt_30, ↓zg_59_22, ↓zg_59_43, zl_77, zs_77, ↓zn_77, hn, h]
      rw [cnt_f (by simpa using h)]
