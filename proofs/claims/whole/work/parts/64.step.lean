--DEPS 62.cmut3 63.mmut
/-! A step in both. -/
theorem cR.fi {R : zR} {I I' : Nat → Nat → Int} {A : Nat → Int → Int} {K : List (Nat × Nat)} (h : cR R I A) (f : fi K I I') (g : (K.contains (5, 0) || K.contains (5, 1) || K.contains (5, 2) || K.contains (5, 3) || K.contains (5, 4)) = false) : cR R I' A := by
  simp only [Bool.or_eq_false_iff] at g
  unfold cR
  rw [f 5 0 g.1.1.1.1, f 5 1 g.1.1.1.2, f 5 2 g.1.1.2, f 5 3 g.1.2, f 5 4 g.2]; exact h
theorem mR.fi {R : zR} {I I' : Nat → Nat → Int} {A : Nat → Int → Int} {K : List (Nat × Nat)} (h : mR R I A) (f : fi K I I') (g : (K.contains (59, 21) || K.contains (59, 22) || K.contains (59, 23) || K.contains (59, 24) || K.contains (59, 25)) = false) : mR R I' A := by
  simp only [Bool.or_eq_false_iff] at g
  unfold mR
  rw [f 59 21 g.1.1.1.1, f 59 22 g.1.1.1.2, f 59 23 g.1.1.2, f 59 24 g.1.2, f 59 25 g.2]; exact h
theorem cL.fi {F : zF} {I I' : Nat → Nat → Int} {A : Nat → Int → Int} {K : List (Nat × Nat)} (h : cL F I A) (f : fi K I I') (g : K.contains (19, 4) = false) : cL F I' A := by
  unfold cL
  rw [f 19 4 g]; exact h
theorem mL.fi {F : zF} {I I' : Nat → Nat → Int} {A : Nat → Int → Int} {K : List (Nat × Nat)} (h : mL F I A) (f : fi K I I') (g : K.contains (59, 32) = false) : mL F I' A := by
  unfold mL
  rw [f 59 32 g]; exact h
abbrev gosP (R : zR) (s : Int → Int) (k a : Int) : Prop := (if k = 0 ∨ k = 1 then zb (canF R s a) else if k = 3 then zb (bts (rW R) (fun w => decide (free R s w)) ≠ 0) else if k = 2 then zb (s 46 ≠ a) else zb (s 45 ≠ 500)) = 1
def gosS (R : zR) (F : zF) (s : Int → Int) (k a b : Int) : Int → Int := if k = 0 ∨ k = 1 then flk R F s a b k else if k = 3 then shk R s else if k = 2 then up s 46 a else if s 45 = 500 then s else pas R s
def stOK (R : zR) (k a : Int) : Prop := ((k = 0 ∨ k = 1) ∧ 0 ≤ a ∧ a < rW R) ∨ (k = 2 ∧ 0 ≤ a ∧ a ≤ 9) ∨ k = 3 ∨ k = 4
def sN (R : zR) (s : Int → Int) : Prop := sV R s ∧ 0 ≤ s 45 ∧ s 45 ≤ 500 ∧ 0 ≤ s 46 ∧ s 46 ≤ 9
theorem zb_zb {p : Prop} [Decidable p] : zb (zb p = 1) = zb p := by
  by_cases h : p
  · rw [zb_t h]; rfl
  · rw [zb_f h]; rfl
section
variable {R : zR} {F : zF} {s : Int → Int}
theorem flk_o {w p h j : Int} (hR : wR R) (h0 : 0 ≤ w) (h1 : w < rW R) (hj : 45 ≤ j) : flk R F s w p h j = s j := by
  have h10 := hR.2.1
  have h5 := hR.1
  have ho := hR.o h0 h1
  have e : flk1 R s w j = s j := by unfold flk1; rw [up_n (by omega), up_n (by omega)]
  unfold flk flkX
  split
  · split
    · exact e
    · split
      · rw [lnd_o h10 h0 h1 (by omega) (by omega)]; exact e
      · rw [ern, up_n (by omega), lnd_o h10 h0 h1 (by omega) (by omega)]; exact e
  · rfl
theorem shk_o {j : Int} (hR : wR R) (hj : 40 ≤ j) : ∀ n : Nat, n ≤ rW R → shkN R s n j = s j
  | 0, _ => rfl
  | n + 1, hn => by
    have h10 := hR.2.1
    unfold shkN
    split
    · rw [lnd_o h10 (by omega) (by omega) (by omega) (by omega)]; exact shk_o hR hj n (by omega)
    · exact shk_o hR hj n (by omega)
theorem sN.go {k a b : Int} (h : sN R s) (hR : wR R) (hF : wF F) (hk : stOK R k a) : sN R (gosS R F s k a b) := by
  obtain ⟨hV, d0, d1, m0, m1⟩ := h
  unfold gosS
  rcases hk with ⟨hk, a0, a1⟩ | ⟨rfl, a0, a1⟩ | rfl | rfl
  · rw [if_pos hk]
    refine ⟨hV.fk hR hF a0 a1, ?_⟩
    rw [flk_o hR a0 a1 (by decide), flk_o hR a0 a1 (by decide)]; exact ⟨d0, d1, m0, m1⟩
  · rw [if_neg (by decide), if_neg (by decide), if_pos rfl]
    refine ⟨hV.cg hR.2.1 (fun w w0 w1 => up_n (by omega)) (fun w w0 w1 => up_n (by omega)) fun h h0 h1 => ?_, ?_⟩
    · have := hR.1
      rw [up_n (by omega)]; exact hV.2.2.2.2 h h0 h1
    · rw [up_n (by decide), up_s]; exact ⟨d0, d1, a0, a1⟩
  · rw [if_neg (by decide), if_pos rfl]
    refine ⟨hV.sh hR, ?_⟩
    have e5 : shk R s 45 = s 45 := shk_o hR (by decide) _ (Nat.le_refl _)
    have e6 : shk R s 46 = s 46 := shk_o hR (by decide) _ (Nat.le_refl _)
    rw [e5, e6]; exact ⟨d0, d1, m0, m1⟩
  · rw [if_neg (by decide), if_neg (by decide), if_neg (by decide)]
    split
    · exact ⟨hV, d0, d1, m0, m1⟩
    · refine ⟨hV.pa hR, ?_⟩
      have e := (pss_i hV hR (rW R) (Nat.le_refl _)).2
      unfold pas
      rw [up_s, up_n (by decide), e 45 (by omega), e 46 (by omega)]
      omega
end
section ST
variable {d : Nat} {I : Nat → Nat → Int} {A : Nat → Int → Int} {W : qWt} {R : zR} {F : zF} {s : Int → Int}
theorem m_goes {k a b : Int} (hd : 10 ≤ d) (hR : mR R I A) (hL : mL F I A) (hN : sN R (A 77)) (hk : stOK R k a) : ∃ A', fr [72, 73, 77, 79] A A' ∧ A' 77 = gosS R F (A 77) k a b ∧ q_call q_MT d 222 [.ref 59, .int (zI k), .int (zI a), .int (zI b)] (zM I A W) = some (.inl (some (.int (zI (zb (gosP R (A 77) k a))))), zM I A' W) := by
  obtain ⟨d, rfl⟩ : ∃ e, d = e + 1 := ⟨d - 1, by omega⟩
  obtain ⟨hV, d0, d1, m0, m1⟩ := hN
  rw [cl_X11_goes]
  unfold gosP gosS
  rcases hk with ⟨hk, a0, a1⟩ | ⟨rfl, a0, a1⟩ | rfl | rfl
  · obtain ⟨A', f, e7, e⟩ := m_flicks (p := b) (W := W) (show 9 ≤ d by omega) hR hL hV a0 a1 hk
    refine ⟨A', f.wd rfl, by rw [if_pos hk]; exact e7, ?_⟩
    simp only [if_pos hk]
    rw [zb_zb]
    by_cases q : canF R (A 77) a
    · rw [zb_t q] at e ⊢
      rcases hk with rfl | rfl
      · simp (implicitDefEqProofs := false) (disch := omega) only [↓rI_s, ↓rV_s, ↓rI_e, ↓rV_e, zc_eq, zc_ne, zc_lt, zc_ge, zc_gt, zc_le, zlt_t, zlt_f, zle_t, zle_f, zeq_t, zeq_f, lz, zadd, zsub, zmul, zneg, zb_e0, zb_e1, boo0, boo1, ua_s, ua_n, ua_ua, up_s, u2_s, u2_f, u2_c, u2_u2, Int.natCast_add, Int.zero_add, Int.add_zero, ↓reduceIte, ne_eq, not_true_eq_false, not_false_eq_true, Int.natCast_one, ↓k_X11_goes_0, ↓k_X11_goes_9, ↓mc_59, ↓zg_59_43, zl_77, zs_77, ↓zn_77, e]
      · simp (implicitDefEqProofs := false) (disch := omega) only [↓rI_s, ↓rV_s, ↓rI_e, ↓rV_e, zc_eq, zc_ne, zc_lt, zc_ge, zc_gt, zc_le, zlt_t, zlt_f, zle_t, zle_f, zeq_t, zeq_f, lz, zadd, zsub, zmul, zneg, zb_e0, zb_e1, boo0, boo1, ua_s, ua_n, ua_ua, up_s, u2_s, u2_f, u2_c, u2_u2, Int.natCast_add, Int.zero_add, Int.add_zero, ↓reduceIte, ne_eq, not_true_eq_false, not_false_eq_true, Int.natCast_one, ↓k_X11_goes_0, ↓k_X11_goes_9, ↓mc_59, ↓zg_59_43, zl_77, zs_77, ↓zn_77, e]
    · rw [zb_f q] at e ⊢
      rcases hk with rfl | rfl
      · simp (implicitDefEqProofs := false) (disch := omega) only [↓rI_s, ↓rV_s, ↓rI_e, ↓rV_e, zc_eq, zc_ne, zc_lt, zc_ge, zc_gt, zc_le, zlt_t, zlt_f, zle_t, zle_f, zeq_t, zeq_f, lz, zadd, zsub, zmul, zneg, zb_e0, zb_e1, boo0, boo1, ua_s, ua_n, ua_ua, up_s, u2_s, u2_f, u2_c, u2_u2, Int.natCast_add, Int.zero_add, Int.add_zero, ↓reduceIte, ne_eq, not_true_eq_false, not_false_eq_true, Int.natCast_one, ↓k_X11_goes_0, ↓k_X11_goes_9, ↓mc_59, ↓zg_59_43, zl_77, zs_77, ↓zn_77, e]
      · simp (implicitDefEqProofs := false) (disch := omega) only [↓rI_s, ↓rV_s, ↓rI_e, ↓rV_e, zc_eq, zc_ne, zc_lt, zc_ge, zc_gt, zc_le, zlt_t, zlt_f, zle_t, zle_f, zeq_t, zeq_f, lz, zadd, zsub, zmul, zneg, zb_e0, zb_e1, boo0, boo1, ua_s, ua_n, ua_ua, up_s, u2_s, u2_f, u2_c, u2_u2, Int.natCast_add, Int.zero_add, Int.add_zero, ↓reduceIte, ne_eq, not_true_eq_false, not_false_eq_true, Int.natCast_one, ↓k_X11_goes_0, ↓k_X11_goes_9, ↓mc_59, ↓zg_59_43, zl_77, zs_77, ↓zn_77, e]
  · simp only [if_neg (show ¬ ((2 : Int) = 0 ∨ (2 : Int) = 1) by decide), if_neg (show ¬ (2 : Int) = 3 by decide), if_pos]
    rw [zb_zb]
    by_cases q : A 77 46 = a
    · refine ⟨A, fr.refl, ?_, ?_⟩
      · funext j
        unfold up
        split
        · rename_i e; rw [e, q]
        · rfl
      · rw [zb_f (fun q2 => q2 q)]
        simp (implicitDefEqProofs := false) (disch := omega) only [↓rI_s, ↓rV_s, ↓rI_e, ↓rV_e, zc_eq, zc_ne, zc_lt, zc_ge, zc_gt, zc_le, zlt_t, zlt_f, zle_t, zle_f, zeq_t, zeq_f, lz, zadd, zsub, zmul, zneg, zb_e0, zb_e1, boo0, boo1, ua_s, ua_n, ua_ua, up_s, u2_s, u2_f, u2_c, u2_u2, Int.natCast_add, Int.zero_add, Int.add_zero, ↓reduceIte, ne_eq, not_true_eq_false, not_false_eq_true, Int.natCast_one, ↓k_X11_goes_0, ↓k_X11_goes_9, ↓mc_59, ↓zg_59_43, zl_77, zs_77, ↓zn_77, q]
    · refine ⟨ua A 77 (up (A 77) 46 a), fr.refl.a rfl, ua_s, ?_⟩
      rw [zb_t q]
      simp (implicitDefEqProofs := false) (disch := omega) only [↓rI_s, ↓rV_s, ↓rI_e, ↓rV_e, zc_eq, zc_ne, zc_lt, zc_ge, zc_gt, zc_le, zlt_t, zlt_f, zle_t, zle_f, zeq_t, zeq_f, lz, zadd, zsub, zmul, zneg, zb_e0, zb_e1, boo0, boo1, ua_s, ua_n, ua_ua, up_s, u2_s, u2_f, u2_c, u2_u2, Int.natCast_add, Int.zero_add, Int.add_zero, ↓reduceIte, ne_eq, not_true_eq_false, not_false_eq_true, Int.natCast_one, ↓k_X11_goes_0, ↓k_X11_goes_9, ↓mc_59, ↓zg_59_43, zl_77, zs_77, ↓zn_77]
  · obtain ⟨A', f, e7, e⟩ := m_shakes (W := W) (show 5 ≤ d by omega) hR hV
    simp only [if_neg (show ¬ ((3 : Int) = 0 ∨ (3 : Int) = 1) by decide), if_pos]
    refine ⟨A', f.wd rfl, e7, ?_⟩
    rw [zb_zb]
    by_cases q : bts (rW R) (fun w => decide (free R (A 77) w)) ≠ 0
    · rw [zb_t q] at e ⊢
      simp (implicitDefEqProofs := false) (disch := omega) only [↓rI_s, ↓rV_s, ↓rI_e, ↓rV_e, zc_eq, zc_ne, zc_lt, zc_ge, zc_gt, zc_le, zlt_t, zlt_f, zle_t, zle_f, zeq_t, zeq_f, lz, zadd, zsub, zmul, zneg, zb_e0, zb_e1, boo0, boo1, ua_s, ua_n, ua_ua, up_s, u2_s, u2_f, u2_c, u2_u2, Int.natCast_add, Int.zero_add, Int.add_zero, ↓reduceIte, ne_eq, not_true_eq_false, not_false_eq_true, Int.natCast_one, ↓k_X11_goes_0, ↓k_X11_goes_9, ↓mc_59, ↓zg_59_43, zl_77, zs_77, ↓zn_77, e]
    · rw [zb_f q] at e ⊢
      simp (implicitDefEqProofs := false) (disch := omega) only [↓rI_s, ↓rV_s, ↓rI_e, ↓rV_e, zc_eq, zc_ne, zc_lt, zc_ge, zc_gt, zc_le, zlt_t, zlt_f, zle_t, zle_f, zeq_t, zeq_f, lz, zadd, zsub, zmul, zneg, zb_e0, zb_e1, boo0, boo1, ua_s, ua_n, ua_ua, up_s, u2_s, u2_f, u2_c, u2_u2, Int.natCast_add, Int.zero_add, Int.add_zero, ↓reduceIte, ne_eq, not_true_eq_false, not_false_eq_true, Int.natCast_one, ↓k_X11_goes_0, ↓k_X11_goes_9, ↓mc_59, ↓zg_59_43, zl_77, zs_77, ↓zn_77, e]
  · simp only [if_neg (show ¬ ((4 : Int) = 0 ∨ (4 : Int) = 1) by decide), if_neg (show ¬ (4 : Int) = 3 by decide), if_neg (show ¬ (4 : Int) = 2 by decide)]
    rw [zb_zb]
    by_cases q : A 77 45 = 500
    · refine ⟨A, fr.refl, by rw [if_pos q], ?_⟩
      rw [zb_f (fun q2 => q2 q)]
      simp (implicitDefEqProofs := false) (disch := omega) only [↓rI_s, ↓rV_s, ↓rI_e, ↓rV_e, zc_eq, zc_ne, zc_lt, zc_ge, zc_gt, zc_le, zlt_t, zlt_f, zle_t, zle_f, zeq_t, zeq_f, lz, zadd, zsub, zmul, zneg, zb_e0, zb_e1, boo0, boo1, ua_s, ua_n, ua_ua, up_s, u2_s, u2_f, u2_c, u2_u2, Int.natCast_add, Int.zero_add, Int.add_zero, ↓reduceIte, ne_eq, not_true_eq_false, not_false_eq_true, Int.natCast_one, ↓k_X11_goes_0, ↓k_X11_goes_9, ↓mc_59, ↓zg_59_43, zl_77, zs_77, ↓zn_77, q]
    · have e := m_passes (W := W) (show 3 ≤ d by omega) hR hV
      refine ⟨ua A 77 (pas R (A 77)), fr.refl.a rfl, by rw [if_neg q, ua_s], ?_⟩
      rw [zb_t q]
      simp (implicitDefEqProofs := false) (disch := omega) only [↓rI_s, ↓rV_s, ↓rI_e, ↓rV_e, zc_eq, zc_ne, zc_lt, zc_ge, zc_gt, zc_le, zlt_t, zlt_f, zle_t, zle_f, zeq_t, zeq_f, lz, zadd, zsub, zmul, zneg, zb_e0, zb_e1, boo0, boo1, ua_s, ua_n, ua_ua, up_s, u2_s, u2_f, u2_c, u2_u2, Int.natCast_add, Int.zero_add, Int.add_zero, ↓reduceIte, ne_eq, not_true_eq_false, not_false_eq_true, Int.natCast_one, ↓k_X11_goes_0, ↓k_X11_goes_9, ↓mc_59, ↓zg_59_43, zl_77, zs_77, ↓zn_77, e]
theorem c_isDone {k a b : Int} (hd : 5 ≤ d) (hR : cR R I A) (hB : bR R s (A 25) (A 26) (A 27) (A 28) (A 29) (I 24 7) (I 24 8)) (hL : cL F I A) (hN : sN R s) (hk : stOK R k a) : ∃ I' A', fi [(24, 7), (24, 8)] I I' ∧ fr [22, 23, 25, 26, 27, 28, 29] A A' ∧ bR R (gosS R F s k a b) (A' 25) (A' 26) (A' 27) (A' 28) (A' 29) (I' 24 7) (I' 24 8) ∧ q_call q_MT d 99 [.ref 24, .int (zI k), .int (zI a), .int (zI b)] (zM I A W) = some (.inl (some (.int (zI (zb (gosP R s k a))))), zM I' A' W) := by
  obtain ⟨d, rfl⟩ : ∃ e, d = e + 1 := ⟨d - 1, by omega⟩
  obtain ⟨hV, d0, d1, m0, m1⟩ := hN
  rw [cl_X8_isDone, k_X8_isDone_0]
  unfold gosP gosS
  rcases hk with ⟨hk, a0, a1⟩ | ⟨rfl, a0, a1⟩ | rfl | rfl
  · obtain ⟨A', f, b', e⟩ := c24_flick (p := b) (W := W) (show 4 ≤ d by omega) hR hB hV.1 hV hL a0 a1 hk
    refine ⟨I, A', fi.refl, f, by rw [if_pos hk]; exact b', ?_⟩
    simp only [if_pos hk]
    rw [zb_zb]
    by_cases q : canF R s a
    · rw [zb_t q] at e ⊢
      rcases hk with rfl | rfl
      · refine (k_X8_isDone_1_c0 _ _ _ _ _ _).trans ?_
        simp (implicitDefEqProofs := false) (disch := omega) only [↓rI_s, ↓rV_s, ↓rI_e, ↓rV_e, zc_eq, zc_ne, zc_lt, zc_ge, zc_gt, zc_le, zlt_t, zlt_f, zle_t, zle_f, zeq_t, zeq_f, lz, zadd, zsub, zmul, zneg, zb_e0, zb_e1, boo0, boo1, ua_s, ua_n, ua_ua, up_s, u2_s, u2_f, u2_c, u2_u2, Int.natCast_add, Int.zero_add, Int.add_zero, ↓reduceIte, ne_eq, not_true_eq_false, not_false_eq_true, Int.natCast_one, ↓mc_24, e]
      · refine (k_X8_isDone_1_c1 _ _ _ _ _ _).trans ?_
        simp (implicitDefEqProofs := false) (disch := omega) only [↓rI_s, ↓rV_s, ↓rI_e, ↓rV_e, zc_eq, zc_ne, zc_lt, zc_ge, zc_gt, zc_le, zlt_t, zlt_f, zle_t, zle_f, zeq_t, zeq_f, lz, zadd, zsub, zmul, zneg, zb_e0, zb_e1, boo0, boo1, ua_s, ua_n, ua_ua, up_s, u2_s, u2_f, u2_c, u2_u2, Int.natCast_add, Int.zero_add, Int.add_zero, ↓reduceIte, ne_eq, not_true_eq_false, not_false_eq_true, Int.natCast_one, ↓mc_24, e]
    · rw [zb_f q] at e ⊢
      rcases hk with rfl | rfl
      · refine (k_X8_isDone_1_c0 _ _ _ _ _ _).trans ?_
        simp (implicitDefEqProofs := false) (disch := omega) only [↓rI_s, ↓rV_s, ↓rI_e, ↓rV_e, zc_eq, zc_ne, zc_lt, zc_ge, zc_gt, zc_le, zlt_t, zlt_f, zle_t, zle_f, zeq_t, zeq_f, lz, zadd, zsub, zmul, zneg, zb_e0, zb_e1, boo0, boo1, ua_s, ua_n, ua_ua, up_s, u2_s, u2_f, u2_c, u2_u2, Int.natCast_add, Int.zero_add, Int.add_zero, ↓reduceIte, ne_eq, not_true_eq_false, not_false_eq_true, Int.natCast_one, ↓mc_24, e]
      · refine (k_X8_isDone_1_c1 _ _ _ _ _ _).trans ?_
        simp (implicitDefEqProofs := false) (disch := omega) only [↓rI_s, ↓rV_s, ↓rI_e, ↓rV_e, zc_eq, zc_ne, zc_lt, zc_ge, zc_gt, zc_le, zlt_t, zlt_f, zle_t, zle_f, zeq_t, zeq_f, lz, zadd, zsub, zmul, zneg, zb_e0, zb_e1, boo0, boo1, ua_s, ua_n, ua_ua, up_s, u2_s, u2_f, u2_c, u2_u2, Int.natCast_add, Int.zero_add, Int.add_zero, ↓reduceIte, ne_eq, not_true_eq_false, not_false_eq_true, Int.natCast_one, ↓mc_24, e]
  · have e := c24_dampen (n := a) (W := W) (show 1 ≤ d by omega) hB
    simp only [if_neg (show ¬ ((2 : Int) = 0 ∨ (2 : Int) = 1) by decide), if_neg (show ¬ (2 : Int) = 3 by decide), if_pos]
    refine ⟨u2 I 24 8 a, A, fi.refl.f rfl, fr.refl, ?_, ?_⟩
    · have h10 := hR.1.2.1
      have h5 := hR.1.1
      obtain ⟨b1, b2, b3, b4, b5, b6, b7⟩ := hB
      refine ⟨fun v v0 v1 => ?_, fun v v0 v1 => ?_, fun v v0 v1 => ?_, fun k k0 k1 => ?_, fun y y0 y1 => ?_, ?_, ?_⟩
      · rw [up_n (by omega), up_n (by omega)]; exact b1 v v0 v1
      · rw [up_n (by omega)]; exact b2 v v0 v1
      · rw [up_n (by omega)]; exact b3 v v0 v1
      · rw [up_n (by omega)]; exact b4 k k0 k1
      · rw [b5 y y0 y1]; exact many_cg (fun v v0 v1 => by rw [up_n (by omega)]) y
      · rw [up_n (by decide), u2_f (by decide)]; exact b6
      · rw [up_s, u2_s]
    · rw [zb_zb]
      refine (k_X8_isDone_1_c2 _ _ _ _ _ _).trans ?_
      have e2 : (zI (s 46) = zI a) = (s 46 = a) := zeq (by omega) (by omega) (by omega) (by omega)
      by_cases q : s 46 = a
      · rw [zb_f (fun q2 => q2 (e2.mpr q))] at e
        rw [zb_f (fun q2 => q2 q)]
        simp (implicitDefEqProofs := false) (disch := omega) only [↓rI_s, ↓rV_s, ↓rI_e, ↓rV_e, zc_eq, zc_ne, zc_lt, zc_ge, zc_gt, zc_le, zlt_t, zlt_f, zle_t, zle_f, zeq_t, zeq_f, lz, zadd, zsub, zmul, zneg, zb_e0, zb_e1, boo0, boo1, ua_s, ua_n, ua_ua, up_s, u2_s, u2_f, u2_c, u2_u2, Int.natCast_add, Int.zero_add, Int.add_zero, ↓reduceIte, ne_eq, not_true_eq_false, not_false_eq_true, Int.natCast_one, ↓mc_24, e]
      · rw [zb_t (show zI (s 46) ≠ zI a from fun q2 => q (e2.mp q2))] at e
        rw [zb_t q]
        simp (implicitDefEqProofs := false) (disch := omega) only [↓rI_s, ↓rV_s, ↓rI_e, ↓rV_e, zc_eq, zc_ne, zc_lt, zc_ge, zc_gt, zc_le, zlt_t, zlt_f, zle_t, zle_f, zeq_t, zeq_f, lz, zadd, zsub, zmul, zneg, zb_e0, zb_e1, boo0, boo1, ua_s, ua_n, ua_ua, up_s, u2_s, u2_f, u2_c, u2_u2, Int.natCast_add, Int.zero_add, Int.add_zero, ↓reduceIte, ne_eq, not_true_eq_false, not_false_eq_true, Int.natCast_one, ↓mc_24, e]
  · obtain ⟨A', f, b', e⟩ := c24_shakeAll (W := W) (show 4 ≤ d by omega) hR hB hV.1 hV
    simp only [if_neg (show ¬ ((3 : Int) = 0 ∨ (3 : Int) = 1) by decide), if_pos]
    refine ⟨I, A', fi.refl, f.wd rfl, b', ?_⟩
    rw [zb_zb]
    refine (k_X8_isDone_1_c3 _ _ _ _ _ _).trans ?_
    by_cases q : bts (rW R) (fun w => decide (free R s w)) ≠ 0
    · rw [zb_t q] at e ⊢
      simp (implicitDefEqProofs := false) (disch := omega) only [↓rI_s, ↓rV_s, ↓rI_e, ↓rV_e, zc_eq, zc_ne, zc_lt, zc_ge, zc_gt, zc_le, zlt_t, zlt_f, zle_t, zle_f, zeq_t, zeq_f, lz, zadd, zsub, zmul, zneg, zb_e0, zb_e1, boo0, boo1, ua_s, ua_n, ua_ua, up_s, u2_s, u2_f, u2_c, u2_u2, Int.natCast_add, Int.zero_add, Int.add_zero, ↓reduceIte, ne_eq, not_true_eq_false, not_false_eq_true, Int.natCast_one, ↓mc_24, e]
    · rw [zb_f q] at e ⊢
      simp (implicitDefEqProofs := false) (disch := omega) only [↓rI_s, ↓rV_s, ↓rI_e, ↓rV_e, zc_eq, zc_ne, zc_lt, zc_ge, zc_gt, zc_le, zlt_t, zlt_f, zle_t, zle_f, zeq_t, zeq_f, lz, zadd, zsub, zmul, zneg, zb_e0, zb_e1, boo0, boo1, ua_s, ua_n, ua_ua, up_s, u2_s, u2_f, u2_c, u2_u2, Int.natCast_add, Int.zero_add, Int.add_zero, ↓reduceIte, ne_eq, not_true_eq_false, not_false_eq_true, Int.natCast_one, ↓mc_24, e]
  · obtain ⟨I', A', hI, f, b', e⟩ := c24_endDay (W := W) (show 4 ≤ d by omega) hR hB hV.1 hV ⟨d0, d1⟩
    simp only [if_neg (show ¬ ((4 : Int) = 0 ∨ (4 : Int) = 1) by decide), if_neg (show ¬ (4 : Int) = 3 by decide), if_neg (show ¬ (4 : Int) = 2 by decide)]
    refine ⟨I', A', ?_, f.wd rfl, b', ?_⟩
    · rcases hI with rfl | rfl
      · exact fi.refl
      · exact fi.refl.f rfl
    · rw [zb_zb]
      refine (k_X8_isDone_1_d _ _ _ _ _ _ _ (.inr (by decide))).trans ?_
      by_cases q : s 45 = 500
      · rw [zb_f (fun q2 => q2 q)] at e ⊢
        simp (implicitDefEqProofs := false) (disch := omega) only [↓rI_s, ↓rV_s, ↓rI_e, ↓rV_e, zc_eq, zc_ne, zc_lt, zc_ge, zc_gt, zc_le, zlt_t, zlt_f, zle_t, zle_f, zeq_t, zeq_f, lz, zadd, zsub, zmul, zneg, zb_e0, zb_e1, boo0, boo1, ua_s, ua_n, ua_ua, up_s, u2_s, u2_f, u2_c, u2_u2, Int.natCast_add, Int.zero_add, Int.add_zero, ↓reduceIte, ne_eq, not_true_eq_false, not_false_eq_true, Int.natCast_one, ↓mc_24, e]
      · rw [zb_t q] at e ⊢
        simp (implicitDefEqProofs := false) (disch := omega) only [↓rI_s, ↓rV_s, ↓rI_e, ↓rV_e, zc_eq, zc_ne, zc_lt, zc_ge, zc_gt, zc_le, zlt_t, zlt_f, zle_t, zle_f, zeq_t, zeq_f, lz, zadd, zsub, zmul, zneg, zb_e0, zb_e1, boo0, boo1, ua_s, ua_n, ua_ua, up_s, u2_s, u2_f, u2_c, u2_u2, Int.natCast_add, Int.zero_add, Int.add_zero, ↓reduceIte, ne_eq, not_true_eq_false, not_false_eq_true, Int.natCast_one, ↓mc_24, e]
end ST
