--DEPS 82.duel
section DM
variable {d : Nat} {I : Nat → Nat → Int} {A : Nat → Int → Int} {W : qWt} {R : zR} {F : zF} {s : Int → Int}
theorem m_hasBy {w p o q : Int} (hd : 10 ≤ d) (hY : mY R F s I A) (h0 : 0 ≤ w ∧ w < rW R) (h1 : 0 ≤ o ∧ o < rW R) : ∃ A', fr [72, 73] A A' ∧ q_call q_MT d 260 [.ref 59, .int (zI w), .int (zI p), .int (zI o), .int (zI q)] (zM I A W) = some (.inl (some (.int (zI (hb R F s w p o q)))), zM I A' W) := by
  obtain ⟨d, rfl⟩ : ∃ e, d = e + 1 := ⟨d - 1, by omega⟩
  have h10 := hY.1.1.2.1
  have hc4 := hY.1.1.2.2.1
  obtain ⟨A1, f1, e1⟩ := m_cupOf (p := p) (h := 0) (W := W) (show 9 ≤ d by omega) hY h0.1 h0.2 (.inl rfl)
  have hY1 := hY.t fi.refl (f1.wd rfl)
  obtain ⟨A2, f2, e2⟩ := m_downOf (p := p) (h := 0) (W := W) (show 8 ≤ d by omega) hY1 h0.1 h0.2 (.inl rfl)
  have hY2 := hY1.t fi.refl (f2.wd rfl)
  obtain ⟨A3, f3, e3⟩ := m_downOf (p := q) (h := 0) (W := W) (show 8 ≤ d by omega) hY2 h1.1 h1.2 (.inl rfl)
  have hY3 := hY2.t fi.refl (f3.wd rfl)
  have cb := chit_b (R := R) (F := F) (s := s) (w := w) (p := p) (h := 0)
  have d1 := dwn_b (s := s) (w := w) (p := p) (h := 0) hY.1.1 hY.2.2.2.w
  have d2 := dwn_b (s := s) (w := o) (p := q) (h := 0) hY.1.1 hY.2.2.2.w
  have cl := cupAt_lo R (dwn R F s w p 0)
  have chh := cupAt_hi R (dwn R F s w p 0)
  have e30 : ∀ l5 l6 l7 : Value, ∃ A', fr [72, 73] A A' ∧ q_run qm_X11_hasBy (q_call q_MT d) 30 [.ref 59, .int (zI w), .int (zI p), .int (zI o), .int (zI q), l5, l6, l7] [.int (zI (paid R F s w p 0))] (zM I A1 W) = some (.inl (some (.int (zI (hb R F s w p o q)))), zM I A' W) := by
    intro l5 l6 l7
    rw [k_X11_hasBy_30]
    unfold hb
    by_cases q1 : dwn R F s w p 0 < 0
    · rw [if_neg (show ¬ (0 ≤ dwn R F s w p 0 ∧ dwn R F s w p 0 = dwn R F s o q 0 ∧ cupAt R (dwn R F s w p 0) = -1) by omega)]
      refine ⟨A2, f1.tr f2, ?_⟩
      simp (implicitDefEqProofs := false) (disch := omega) only [↓rI_s, ↓rV_s, ↓rI_e, ↓rV_e, zc_eq, zc_ne, zc_lt, zc_ge, zc_gt, zc_le, zlt_t, zlt_f, zle_t, zle_f, zeq_t, zeq_f, lz, zadd, zsub, zmul, zneg, zb_e0, zb_e1, boo0, boo1, ua_s, ua_n, ua_ua, up_s, u2_s, u2_f, u2_c, u2_u2, Int.natCast_add, Int.zero_add, Int.add_zero, ↓reduceIte, ne_eq, not_true_eq_false, not_false_eq_true, Int.natCast_one, ↓mc_59, e2, ↓k_X11_hasBy_69]
    · by_cases q2 : dwn R F s w p 0 = dwn R F s o q 0
      · refine ⟨A3, (f1.tr f2).tr f3, ?_⟩
        simp (implicitDefEqProofs := false) (disch := omega) only [↓rI_s, ↓rV_s, ↓rI_e, ↓rV_e, zc_eq, zc_ne, zc_lt, zc_ge, zc_gt, zc_le, zlt_t, zlt_f, zle_t, zle_f, zeq_t, zeq_f, lz, zadd, zsub, zmul, zneg, zb_e0, zb_e1, boo0, boo1, ua_s, ua_n, ua_ua, up_s, u2_s, u2_f, u2_c, u2_u2, Int.natCast_add, Int.zero_add, Int.add_zero, ↓reduceIte, ne_eq, not_true_eq_false, not_false_eq_true, Int.natCast_one, ↓mc_59, e2, e3]
        rw [m_cupAt (A := A3) (by omega) hY3.1 (by omega)]
        by_cases q3 : cupAt R (dwn R F s w p 0) = -1
        · rw [if_pos (show 0 ≤ dwn R F s w p 0 ∧ dwn R F s w p 0 = dwn R F s o q 0 ∧ cupAt R (dwn R F s w p 0) = -1 from ⟨by omega, q2, q3⟩)]
          by_cases q4 : w < o
          · rw [if_pos q4]
            simp (implicitDefEqProofs := false) (disch := omega) only [↓rI_s, ↓rV_s, ↓rI_e, ↓rV_e, zc_eq, zc_ne, zc_lt, zc_ge, zc_gt, zc_le, zlt_t, zlt_f, zle_t, zle_f, zeq_t, zeq_f, lz, zadd, zsub, zmul, zneg, zb_e0, zb_e1, boo0, boo1, ua_s, ua_n, ua_ua, up_s, u2_s, u2_f, u2_c, u2_u2, Int.natCast_add, Int.zero_add, Int.add_zero, ↓reduceIte, ne_eq, not_true_eq_false, not_false_eq_true, Int.natCast_one, ↓k_X11_hasBy_0, ↓k_X11_hasBy_30, ↓k_X11_hasBy_69, ↓k_X11_hasBy_88, ↓mc_59, ↓zg_59_15, zl_67, zs_67, ↓zn_67]
            exact rz (Int.sub_eq_add_neg)
          · rw [if_neg q4]
            simp (implicitDefEqProofs := false) (disch := omega) only [↓rI_s, ↓rV_s, ↓rI_e, ↓rV_e, zc_eq, zc_ne, zc_lt, zc_ge, zc_gt, zc_le, zlt_t, zlt_f, zle_t, zle_f, zeq_t, zeq_f, lz, zadd, zsub, zmul, zneg, zb_e0, zb_e1, boo0, boo1, ua_s, ua_n, ua_ua, up_s, u2_s, u2_f, u2_c, u2_u2, Int.natCast_add, Int.zero_add, Int.add_zero, ↓reduceIte, ne_eq, not_true_eq_false, not_false_eq_true, Int.natCast_one, ↓k_X11_hasBy_0, ↓k_X11_hasBy_30, ↓k_X11_hasBy_69, ↓k_X11_hasBy_88, ↓mc_59, ↓zg_59_15, zl_67, zs_67, ↓zn_67]
        · rw [if_neg (show ¬ (0 ≤ dwn R F s w p 0 ∧ dwn R F s w p 0 = dwn R F s o q 0 ∧ cupAt R (dwn R F s w p 0) = -1) from fun q => q3 q.2.2)]
          simp (implicitDefEqProofs := false) (disch := omega) only [↓rI_s, ↓rV_s, ↓rI_e, ↓rV_e, zc_eq, zc_ne, zc_lt, zc_ge, zc_gt, zc_le, zlt_t, zlt_f, zle_t, zle_f, zeq_t, zeq_f, lz, zadd, zsub, zmul, zneg, zb_e0, zb_e1, boo0, boo1, ua_s, ua_n, ua_ua, up_s, u2_s, u2_f, u2_c, u2_u2, Int.natCast_add, Int.zero_add, Int.add_zero, ↓reduceIte, ne_eq, not_true_eq_false, not_false_eq_true, Int.natCast_one, ↓k_X11_hasBy_0, ↓k_X11_hasBy_30, ↓k_X11_hasBy_69, ↓k_X11_hasBy_88, ↓mc_59, ↓zg_59_15, zl_67, zs_67, ↓zn_67]
      · rw [if_neg (show ¬ (0 ≤ dwn R F s w p 0 ∧ dwn R F s w p 0 = dwn R F s o q 0 ∧ cupAt R (dwn R F s w p 0) = -1) from fun q => q2 q.2.1)]
        refine ⟨A3, (f1.tr f2).tr f3, ?_⟩
        simp (implicitDefEqProofs := false) (disch := omega) only [↓rI_s, ↓rV_s, ↓rI_e, ↓rV_e, zc_eq, zc_ne, zc_lt, zc_ge, zc_gt, zc_le, zlt_t, zlt_f, zle_t, zle_f, zeq_t, zeq_f, lz, zadd, zsub, zmul, zneg, zb_e0, zb_e1, boo0, boo1, ua_s, ua_n, ua_ua, up_s, u2_s, u2_f, u2_c, u2_u2, Int.natCast_add, Int.zero_add, Int.add_zero, ↓reduceIte, ne_eq, not_true_eq_false, not_false_eq_true, Int.natCast_one, ↓mc_59, e2, e3, ↓k_X11_hasBy_69]
  rw [cl_X11_hasBy]
  by_cases q3 : chit R F s w p 0 = -1
  · have ep : paid R F s w p 0 = 0 := if_pos q3
    obtain ⟨A', f, e⟩ := e30 (.int (zI (-1))) q_junk q_junk
    rw [ep] at e
    rw [q3] at e1
    refine ⟨A', f, ?_⟩
    simp (implicitDefEqProofs := false) (disch := omega) only [↓rI_s, ↓rV_s, ↓rI_e, ↓rV_e, zc_eq, zc_ne, zc_lt, zc_ge, zc_gt, zc_le, zlt_t, zlt_f, zle_t, zle_f, zeq_t, zeq_f, lz, zadd, zsub, zmul, zneg, zb_e0, zb_e1, boo0, boo1, ua_s, ua_n, ua_ua, up_s, u2_s, u2_f, u2_c, u2_u2, Int.natCast_add, Int.zero_add, Int.add_zero, ↓reduceIte, ne_eq, not_true_eq_false, not_false_eq_true, Int.natCast_one, ↓k_X11_hasBy_0, ↓mc_59, e1]
    exact e
  · have ep : paid R F s w p 0 = rP R (chit R F s w p 0) := if_neg q3
    have erp := hY1.1.2.2.2.2.2.2.2.2.2 _ (show 0 ≤ chit R F s w p 0 by omega) cb.2
    obtain ⟨A', f, e⟩ := e30 (.int (zI (chit R F s w p 0))) q_junk q_junk
    rw [ep] at e
    refine ⟨A', f, ?_⟩
    simp (implicitDefEqProofs := false) (disch := omega) only [↓rI_s, ↓rV_s, ↓rI_e, ↓rV_e, zc_eq, zc_ne, zc_lt, zc_ge, zc_gt, zc_le, zlt_t, zlt_f, zle_t, zle_f, zeq_t, zeq_f, lz, zadd, zsub, zmul, zneg, zb_e0, zb_e1, boo0, boo1, ua_s, ua_n, ua_ua, up_s, u2_s, u2_f, u2_c, u2_u2, Int.natCast_add, Int.zero_add, Int.add_zero, ↓reduceIte, ne_eq, not_true_eq_false, not_false_eq_true, Int.natCast_one, ↓k_X11_hasBy_0, ↓mc_59, e1, ↓zg_59_15, zl_67, erp]
    exact e
theorem m_isRest {w p o q : Int} (hd : 11 ≤ d) (hY : mY R F s I A) (h0 : 0 ≤ w ∧ w < rW R) (h1 : 0 ≤ o ∧ o < rW R) : ∃ A', fr [72, 73] A A' ∧ q_call q_MT d 261 [.ref 59, .int (zI w), .int (zI p), .int (zI o), .int (zI q)] (zM I A W) = some (.inl (some (.int (zI (if rst R F s w o p q = true then 1 else 0)))), zM I A' W) := by
  obtain ⟨d, rfl⟩ : ∃ e, d = e + 1 := ⟨d - 1, by omega⟩
  have b1 := hb_b (F := F) (s := s) (w := w) (p := p) (o := o) (q := q) hY.1.1
  have b2 := hb_b (F := F) (s := s) (w := o) (p := q) (o := w) (q := p) hY.1.1
  rw [cl_X11_isRest]
  simp (implicitDefEqProofs := false) (disch := omega) only [↓rI_s, ↓rV_s, ↓rI_e, ↓rV_e, zc_eq, zc_ne, zc_lt, zc_ge, zc_gt, zc_le, zlt_t, zlt_f, zle_t, zle_f, zeq_t, zeq_f, lz, zadd, zsub, zmul, zneg, zb_e0, zb_e1, boo0, boo1, ua_s, ua_n, ua_ua, up_s, u2_s, u2_f, u2_c, u2_u2, Int.natCast_add, Int.zero_add, Int.add_zero, ↓reduceIte, ne_eq, not_true_eq_false, not_false_eq_true, Int.natCast_one, ↓k_X11_isRest_0]
  refine lp_x (fun j (B : Nat → Int → Int) => q_run qm_X11_isRest (q_call q_MT d) 3 [.ref 59, .int (zI w), .int (zI p), .int (zI o), .int (zI q), .int (zI (j + 1))] [] (zM I B W)) (fun j B => fr [72, 73] A B ∧ ∀ r : Nat, r < j → ¬ (hb R F s w p o q < hb R F s w ((r : Int) + 1) o q) ∧ ¬ (hb R F s o q w p < hb R F s o ((r : Int) + 1) w p)) (fun r => ∃ A', fr [72, 73] A A' ∧ r = some (.inl (some (.int (zI (if rst R F s w o p q = true then 1 else 0)))), zM I A' W)) 9 ?_ ?_ 0 A (by omega) ⟨fr.refl, fun r hr => by omega⟩
  · rintro B ⟨f, h⟩
    refine ⟨B, f, ?_⟩
    rw [k_X11_isRest_3, if_pos (show rst R F s w o p q = true from decide_eq_true h)]
    simp (implicitDefEqProofs := false) (disch := omega) only [↓rI_s, ↓rV_s, ↓rI_e, ↓rV_e, zc_eq, zc_ne, zc_lt, zc_ge, zc_gt, zc_le, zlt_t, zlt_f, zle_t, zle_f, zeq_t, zeq_f, lz, zadd, zsub, zmul, zneg, zb_e0, zb_e1, boo0, boo1, ua_s, ua_n, ua_ua, up_s, u2_s, u2_f, u2_c, u2_u2, Int.natCast_add, Int.zero_add, Int.add_zero, ↓reduceIte, ne_eq, not_true_eq_false, not_false_eq_true, Int.natCast_one]
  · rintro j B hj ⟨f, h⟩
    have hYB := hY.t fi.refl (f.wd rfl)
    obtain ⟨B1, f1, e1⟩ := m_hasBy (p := (j : Int) + 1) (q := q) (W := W) (show 10 ≤ d by omega) hYB h0 h1
    have hY1 := hYB.t fi.refl (f1.wd rfl)
    obtain ⟨B2, f2, e2⟩ := m_hasBy (p := p) (q := q) (W := W) (show 10 ≤ d by omega) hY1 h0 h1
    have hY2 := hY1.t fi.refl (f2.wd rfl)
    obtain ⟨B3, f3, e3⟩ := m_hasBy (p := (j : Int) + 1) (q := p) (W := W) (show 10 ≤ d by omega) hY2 h1 h0
    have hY3 := hY2.t fi.refl (f3.wd rfl)
    obtain ⟨B4, f4, e4⟩ := m_hasBy (p := q) (q := p) (W := W) (show 10 ≤ d by omega) hY3 h1 h0
    have b3 := hb_b (F := F) (s := s) (w := w) (p := (j : Int) + 1) (o := o) (q := q) hY.1.1
    have b4 := hb_b (F := F) (s := s) (w := o) (p := (j : Int) + 1) (o := w) (q := p) hY.1.1
    rw [k_X11_isRest_3]
    by_cases q1 : hb R F s w p o q < hb R F s w ((j : Int) + 1) o q
    · refine .inl ⟨B2, (f.tr f1).tr f2, ?_⟩
      rw [if_neg (show ¬ rst R F s w o p q = true from fun q => (of_decide_eq_true q j hj).1 q1)]
      simp (implicitDefEqProofs := false) (disch := omega) only [↓rI_s, ↓rV_s, ↓rI_e, ↓rV_e, zc_eq, zc_ne, zc_lt, zc_ge, zc_gt, zc_le, zlt_t, zlt_f, zle_t, zle_f, zeq_t, zeq_f, lz, zadd, zsub, zmul, zneg, zb_e0, zb_e1, boo0, boo1, ua_s, ua_n, ua_ua, up_s, u2_s, u2_f, u2_c, u2_u2, Int.natCast_add, Int.zero_add, Int.add_zero, ↓reduceIte, ne_eq, not_true_eq_false, not_false_eq_true, Int.natCast_one, ↓mc_59, e1, e2, ↓k_X11_isRest_53]
    · by_cases q2 : hb R F s o q w p < hb R F s o ((j : Int) + 1) w p
      · refine .inl ⟨B4, (((f.tr f1).tr f2).tr f3).tr f4, ?_⟩
        rw [if_neg (show ¬ rst R F s w o p q = true from fun q => (of_decide_eq_true q j hj).2 q2)]
        simp (implicitDefEqProofs := false) (disch := omega) only [↓rI_s, ↓rV_s, ↓rI_e, ↓rV_e, zc_eq, zc_ne, zc_lt, zc_ge, zc_gt, zc_le, zlt_t, zlt_f, zle_t, zle_f, zeq_t, zeq_f, lz, zadd, zsub, zmul, zneg, zb_e0, zb_e1, boo0, boo1, ua_s, ua_n, ua_ua, up_s, u2_s, u2_f, u2_c, u2_u2, Int.natCast_add, Int.zero_add, Int.add_zero, ↓reduceIte, ne_eq, not_true_eq_false, not_false_eq_true, Int.natCast_one, ↓mc_59, e1, e2, e3, e4, ↓k_X11_isRest_53]
      · refine .inr ⟨B4, ⟨(((f.tr f1).tr f2).tr f3).tr f4, fun r hr => ?_⟩, ?_⟩
        · by_cases e : r = j
          · subst e; exact ⟨q1, q2⟩
          · exact h r (by omega)
        · simp (implicitDefEqProofs := false) (disch := omega) only [↓rI_s, ↓rV_s, ↓rI_e, ↓rV_e, zc_eq, zc_ne, zc_lt, zc_ge, zc_gt, zc_le, zlt_t, zlt_f, zle_t, zle_f, zeq_t, zeq_f, lz, zadd, zsub, zmul, zneg, zb_e0, zb_e1, boo0, boo1, ua_s, ua_n, ua_ua, up_s, u2_s, u2_f, u2_c, u2_u2, Int.natCast_add, Int.zero_add, Int.add_zero, ↓reduceIte, ne_eq, not_true_eq_false, not_false_eq_true, Int.natCast_one, ↓mc_59, e1, e2, e3, e4]
theorem M_duel {w o k : Int} (hd : 13 ≤ d) (hX : mX R F s I A) (h0 : wI w) (h1 : wI o) (h2 : wI k) : mOut I A W (q_call q_MT d 262 [.ref 59, .int (zI w), .int (zI o), .int (zI k)] (zM I A W)) (if (0 ≤ w ∧ w < rW R) ∧ (0 ≤ o ∧ o < rW R) then (if (0 ≤ k ∧ k ≤ 2) ∧ w ≠ o ∧ free R s w ∧ free R s o then 0 else 2) else 1) (vDuel R F s w o k) 2 := by
  obtain ⟨d, rfl⟩ : ∃ e, d = e + 1 := ⟨d - 1, by omega⟩
  have hY := hX.y
  have hR := hX.1
  have hs := hX.2.1
  have hV := hX.2.2.1.1
  have hsb := hV.1.b hR.1
  rw [cl_X11_duel]
  by_cases c1 : 0 ≤ w ∧ w < rW R
  · by_cases c2 : 0 ≤ o ∧ o < rW R
    · rw [if_pos ⟨c1, c2⟩]
      by_cases c4 : w = o
      · rw [if_neg (fun q => q.2.1 c4)]
        exact mOut.il (A1 := ua A 77 s) (fr.refl.a rfl) (by simp (implicitDefEqProofs := false) (disch := omega) only [↓rI_s, ↓rV_s, ↓rI_e, ↓rV_e, zc_eq, zc_ne, zc_lt, zc_ge, zc_gt, zc_le, zlt_t, zlt_f, zle_t, zle_f, zeq_t, zeq_f, lz, zadd, zsub, zmul, zneg, zb_e0, zb_e1, boo0, boo1, ua_s, ua_n, ua_ua, up_s, u2_s, u2_f, u2_c, u2_u2, Int.natCast_add, Int.zero_add, Int.add_zero, ↓reduceIte, ne_eq, not_true_eq_false, not_false_eq_true, Int.natCast_one, ↓k_X11_duel_0, ↓k_X11_duel_64, ↓k_X11_duel_65, ↓k_X11_duel_23, ↓mc_59, ↓zp_59_0, s_within, s_within_f, s_isPress, s_isPress_f, s_isWink (show 2 ≤ d by omega) hR, s_isWink_f (show 2 ≤ d by omega) hR, s_isHouse (show 2 ≤ d by omega) hR, s_isHouse_f (show 2 ≤ d by omega) hR, s_may1, s_may0, m_take (show 2 ≤ d by omega), hs])
      · have i1 := fun kx k => m_canFlick (I := u2 I 59 0 0) (A := ua A 77 s) (W := W) (kx := kx) (k := k) (show 3 ≤ d by omega) hR.z hsb c1.1 c1.2
        have i2 := fun kx k => m_canFlick (I := u2 I 59 0 0) (A := ua A 77 s) (W := W) (kx := kx) (k := k) (show 3 ≤ d by omega) hR.z hsb c2.1 c2.2
        simp only [ua_s] at i1 i2
        by_cases c5 : free R s w
        · simp only [zb_t c5] at i1
          by_cases c6 : free R s o
          · simp only [zb_t c6] at i2
            by_cases c3 : 0 ≤ k ∧ k ≤ 2
            · rw [if_pos ⟨c3, c4, c5, c6⟩]
              simp (implicitDefEqProofs := false) (disch := omega) only [↓rI_s, ↓rV_s, ↓rI_e, ↓rV_e, zc_eq, zc_ne, zc_lt, zc_ge, zc_gt, zc_le, zlt_t, zlt_f, zle_t, zle_f, zeq_t, zeq_f, lz, zadd, zsub, zmul, zneg, zb_e0, zb_e1, boo0, boo1, ua_s, ua_n, ua_ua, up_s, u2_s, u2_f, u2_c, u2_u2, Int.natCast_add, Int.zero_add, Int.add_zero, ↓reduceIte, ne_eq, not_true_eq_false, not_false_eq_true, Int.natCast_one, ↓k_X11_duel_0, ↓i1, ↓i2, ↓k_X11_duel_65, ↓mc_59, ↓zp_59_0, s_within, s_within_f, s_isPress, s_isPress_f, s_isWink (show 2 ≤ d by omega) hR, s_isWink_f (show 2 ≤ d by omega) hR, s_isHouse (show 2 ≤ d by omega) hR, s_isHouse_f (show 2 ≤ d by omega) hR, s_may1, s_may0, m_take (show 2 ≤ d by omega), hs]
              refine lp_x (fun j (B : Nat → Int → Int) => q_run qm_X11_duel (q_call q_MT d) 84 [.ref 59, .int (zI w), .int (zI o), .int (zI k), .int (zI (dlN R F s w o j).1), .int (zI (dlN R F s w o j).2), .int (zI j)] [] (zM (u2 I 59 0 0) B W)) (fun j B => fr [72, 73] (ua A 77 s) B) (fun r => mOut I A W r 0 (vDuel R F s w o k) 2) 81 ?_ ?_ 0 (ua A 77 s) (by omega) fr.refl
              · intro B f
                have db := dlN_b (R := R) (F := F) (s := s) (w := w) (o := o) 81 (by omega)
                have : k = 0 ∨ k = 1 ∨ k = 2 := by omega
                rcases this with rfl | rfl | rfl
                · have ev : vDuel R F s w o 0 = (dlN R F s w o 81).1 := if_pos rfl
                  refine mOut.ok (I1 := u2 I 59 0 0) (A1 := B) (fi.refl.f rfl) ((fr.refl.a rfl).tr (f.wd rfl)) u2_s ?_
                  rw [ev, k_X11_duel_84]
                  simp (implicitDefEqProofs := false) (disch := omega) only [↓rI_s, ↓rV_s, ↓rI_e, ↓rV_e, zc_eq, zc_ne, zc_lt, zc_ge, zc_gt, zc_le, zlt_t, zlt_f, zle_t, zle_f, zeq_t, zeq_f, lz, zadd, zsub, zmul, zneg, zb_e0, zb_e1, boo0, boo1, ua_s, ua_n, ua_ua, up_s, u2_s, u2_f, u2_c, u2_u2, Int.natCast_add, Int.zero_add, Int.add_zero, ↓reduceIte, ne_eq, not_true_eq_false, not_false_eq_true, Int.natCast_one, ↓k_X11_duel_219]
                · have ev : vDuel R F s w o 1 = (dlN R F s w o 81).2 := by unfold vDuel; rw [if_neg (by decide), if_pos rfl]
                  refine mOut.ok (I1 := u2 I 59 0 0) (A1 := B) (fi.refl.f rfl) ((fr.refl.a rfl).tr (f.wd rfl)) u2_s ?_
                  rw [ev, k_X11_duel_84]
                  simp (implicitDefEqProofs := false) (disch := omega) only [↓rI_s, ↓rV_s, ↓rI_e, ↓rV_e, zc_eq, zc_ne, zc_lt, zc_ge, zc_gt, zc_le, zlt_t, zlt_f, zle_t, zle_f, zeq_t, zeq_f, lz, zadd, zsub, zmul, zneg, zb_e0, zb_e1, boo0, boo1, ua_s, ua_n, ua_ua, up_s, u2_s, u2_f, u2_c, u2_u2, Int.natCast_add, Int.zero_add, Int.add_zero, ↓reduceIte, ne_eq, not_true_eq_false, not_false_eq_true, Int.natCast_one, ↓k_X11_duel_219]
                · have ev : vDuel R F s w o 2 = dlT R F s w o (dlN R F s w o 81).2 := by unfold vDuel; rw [if_neg (by decide), if_neg (by decide)]
                  by_cases q : (dlN R F s w o 81).2 = -1
                  · have et : dlT R F s w o (dlN R F s w o 81).2 = 0 := if_pos q
                    refine mOut.ok (I1 := u2 I 59 0 0) (A1 := B) (fi.refl.f rfl) ((fr.refl.a rfl).tr (f.wd rfl)) u2_s ?_
                    rw [ev, et, k_X11_duel_84]
                    simp (implicitDefEqProofs := false) (disch := omega) only [↓rI_s, ↓rV_s, ↓rI_e, ↓rV_e, zc_eq, zc_ne, zc_lt, zc_ge, zc_gt, zc_le, zlt_t, zlt_f, zle_t, zle_f, zeq_t, zeq_f, lz, zadd, zsub, zmul, zneg, zb_e0, zb_e1, boo0, boo1, ua_s, ua_n, ua_ua, up_s, u2_s, u2_f, u2_c, u2_u2, Int.natCast_add, Int.zero_add, Int.add_zero, ↓reduceIte, ne_eq, not_true_eq_false, not_false_eq_true, Int.natCast_one, ↓k_X11_duel_219]
                  · have et : dlT R F s w o (dlN R F s w o 81).2 = hb R F s w ((dlN R F s w o 81).2 / 10) o ((dlN R F s w o 81).2 - (dlN R F s w o 81).2 / 10 * 10) + hb R F s o ((dlN R F s w o 81).2 - (dlN R F s w o 81).2 / 10 * 10) w ((dlN R F s w o 81).2 / 10) := if_neg q
                    have hYB := hY.t fi.refl (f.wd rfl)
                    obtain ⟨B1, f1, e1⟩ := m_hasBy (p := (dlN R F s w o 81).2 / 10) (q := (dlN R F s w o 81).2 - (dlN R F s w o 81).2 / 10 * 10) (W := W) (show 10 ≤ d by omega) hYB c1 c2
                    have hY1 := hYB.t fi.refl (f1.wd rfl)
                    obtain ⟨B2, f2, e2⟩ := m_hasBy (p := (dlN R F s w o 81).2 - (dlN R F s w o 81).2 / 10 * 10) (q := (dlN R F s w o 81).2 / 10) (W := W) (show 10 ≤ d by omega) hY1 c2 c1
                    refine mOut.ok (I1 := u2 I 59 0 0) (A1 := B2) (fi.refl.f rfl) ((fr.refl.a rfl).tr (((f.tr f1).tr f2).wd rfl)) u2_s ?_
                    rw [ev, et, k_X11_duel_84]
                    simp (implicitDefEqProofs := false) (disch := omega) only [↓rI_s, ↓rV_s, ↓rI_e, ↓rV_e, zc_eq, zc_ne, zc_lt, zc_ge, zc_gt, zc_le, zlt_t, zlt_f, zle_t, zle_f, zeq_t, zeq_f, lz, zadd, zsub, zmul, zneg, zb_e0, zb_e1, boo0, boo1, ua_s, ua_n, ua_ua, up_s, u2_s, u2_f, u2_c, u2_u2, Int.natCast_add, Int.zero_add, Int.add_zero, ↓reduceIte, ne_eq, not_true_eq_false, not_false_eq_true, Int.natCast_one, zdiv, ↓mc_59, e1, e2, ↓k_X11_duel_219]
              · intro j B hj f
                have db := dlN_b (R := R) (F := F) (s := s) (w := w) (o := o) j (by omega)
                obtain ⟨B', f', e⟩ := m_isRest (p := dP j) (q := dQ j) (W := W) (show 11 ≤ d by omega) (hY.t fi.refl (f.wd rfl)) c1 c2
                refine .inr ⟨B', f.tr f', ?_⟩
                rw [k_X11_duel_84]
                by_cases q : rst R F s w o (dP j) (dQ j) = true
                · have es : dlN R F s w o (j + 1) = ((dlN R F s w o j).1 + 1, if (dlN R F s w o j).2 = -1 then 10 * dP j + dQ j else (dlN R F s w o j).2) := if_pos q
                  rw [if_pos q] at e
                  rw [es]
                  by_cases q2 : (dlN R F s w o j).2 = -1
                  · rw [if_pos q2]
                    simp (implicitDefEqProofs := false) (disch := omega) only [↓rI_s, ↓rV_s, ↓rI_e, ↓rV_e, zc_eq, zc_ne, zc_lt, zc_ge, zc_gt, zc_le, zlt_t, zlt_f, zle_t, zle_f, zeq_t, zeq_f, lz, zadd, zsub, zmul, zneg, zb_e0, zb_e1, boo0, boo1, ua_s, ua_n, ua_ua, up_s, u2_s, u2_f, u2_c, u2_u2, Int.natCast_add, Int.zero_add, Int.add_zero, ↓reduceIte, ne_eq, not_true_eq_false, not_false_eq_true, Int.natCast_one, zdiv, ↓mc_59, e, ↓k_X11_duel_149, ↓k_X11_duel_151]
                    rw [show 10 * ((j : Int) / 9 + 1) + ((j : Int) - (j : Int) / 9 * 9) + 1 = 10 * ((j : Int) / 9 + 1) + ((j : Int) - (j : Int) / 9 * 9 + 1) by omega]
                  · rw [if_neg q2]
                    simp (implicitDefEqProofs := false) (disch := omega) only [↓rI_s, ↓rV_s, ↓rI_e, ↓rV_e, zc_eq, zc_ne, zc_lt, zc_ge, zc_gt, zc_le, zlt_t, zlt_f, zle_t, zle_f, zeq_t, zeq_f, lz, zadd, zsub, zmul, zneg, zb_e0, zb_e1, boo0, boo1, ua_s, ua_n, ua_ua, up_s, u2_s, u2_f, u2_c, u2_u2, Int.natCast_add, Int.zero_add, Int.add_zero, ↓reduceIte, ne_eq, not_true_eq_false, not_false_eq_true, Int.natCast_one, zdiv, ↓mc_59, e, ↓k_X11_duel_149, ↓k_X11_duel_151]
                · have es : dlN R F s w o (j + 1) = dlN R F s w o j := if_neg q
                  rw [if_neg q] at e
                  rw [es]
                  simp (implicitDefEqProofs := false) (disch := omega) only [↓rI_s, ↓rV_s, ↓rI_e, ↓rV_e, zc_eq, zc_ne, zc_lt, zc_ge, zc_gt, zc_le, zlt_t, zlt_f, zle_t, zle_f, zeq_t, zeq_f, lz, zadd, zsub, zmul, zneg, zb_e0, zb_e1, boo0, boo1, ua_s, ua_n, ua_ua, up_s, u2_s, u2_f, u2_c, u2_u2, Int.natCast_add, Int.zero_add, Int.add_zero, ↓reduceIte, ne_eq, not_true_eq_false, not_false_eq_true, Int.natCast_one, zdiv, ↓mc_59, e, ↓k_X11_duel_151]
            · rw [if_neg (fun q => c3 q.1)]
              exact mOut.il (A1 := ua A 77 s) (fr.refl.a rfl) (by simp (implicitDefEqProofs := false) (disch := omega) only [↓rI_s, ↓rV_s, ↓rI_e, ↓rV_e, zc_eq, zc_ne, zc_lt, zc_ge, zc_gt, zc_le, zlt_t, zlt_f, zle_t, zle_f, zeq_t, zeq_f, lz, zadd, zsub, zmul, zneg, zb_e0, zb_e1, boo0, boo1, ua_s, ua_n, ua_ua, up_s, u2_s, u2_f, u2_c, u2_u2, Int.natCast_add, Int.zero_add, Int.add_zero, ↓reduceIte, ne_eq, not_true_eq_false, not_false_eq_true, Int.natCast_one, ↓k_X11_duel_0, ↓i1, ↓i2, ↓k_X11_duel_64, ↓k_X11_duel_65, ↓mc_59, ↓zp_59_0, s_within, s_within_f, s_isPress, s_isPress_f, s_isWink (show 2 ≤ d by omega) hR, s_isWink_f (show 2 ≤ d by omega) hR, s_isHouse (show 2 ≤ d by omega) hR, s_isHouse_f (show 2 ≤ d by omega) hR, s_may1, s_may0, m_take (show 2 ≤ d by omega), hs])
          · simp only [zb_f c6] at i2
            rw [if_neg (fun q => c6 q.2.2.2)]
            exact mOut.il (A1 := ua A 77 s) (fr.refl.a rfl) (by simp (implicitDefEqProofs := false) (disch := omega) only [↓rI_s, ↓rV_s, ↓rI_e, ↓rV_e, zc_eq, zc_ne, zc_lt, zc_ge, zc_gt, zc_le, zlt_t, zlt_f, zle_t, zle_f, zeq_t, zeq_f, lz, zadd, zsub, zmul, zneg, zb_e0, zb_e1, boo0, boo1, ua_s, ua_n, ua_ua, up_s, u2_s, u2_f, u2_c, u2_u2, Int.natCast_add, Int.zero_add, Int.add_zero, ↓reduceIte, ne_eq, not_true_eq_false, not_false_eq_true, Int.natCast_one, ↓k_X11_duel_0, ↓i1, ↓i2, ↓k_X11_duel_64, ↓k_X11_duel_65, ↓mc_59, ↓zp_59_0, s_within, s_within_f, s_isPress, s_isPress_f, s_isWink (show 2 ≤ d by omega) hR, s_isWink_f (show 2 ≤ d by omega) hR, s_isHouse (show 2 ≤ d by omega) hR, s_isHouse_f (show 2 ≤ d by omega) hR, s_may1, s_may0, m_take (show 2 ≤ d by omega), hs])
        · simp only [zb_f c5] at i1
          rw [if_neg (fun q => c5 q.2.2.1)]
          exact mOut.il (A1 := ua A 77 s) (fr.refl.a rfl) (by simp (implicitDefEqProofs := false) (disch := omega) only [↓rI_s, ↓rV_s, ↓rI_e, ↓rV_e, zc_eq, zc_ne, zc_lt, zc_ge, zc_gt, zc_le, zlt_t, zlt_f, zle_t, zle_f, zeq_t, zeq_f, lz, zadd, zsub, zmul, zneg, zb_e0, zb_e1, boo0, boo1, ua_s, ua_n, ua_ua, up_s, u2_s, u2_f, u2_c, u2_u2, Int.natCast_add, Int.zero_add, Int.add_zero, ↓reduceIte, ne_eq, not_true_eq_false, not_false_eq_true, Int.natCast_one, ↓k_X11_duel_0, ↓i1, ↓k_X11_duel_64, ↓k_X11_duel_65, ↓mc_59, ↓zp_59_0, s_within, s_within_f, s_isPress, s_isPress_f, s_isWink (show 2 ≤ d by omega) hR, s_isWink_f (show 2 ≤ d by omega) hR, s_isHouse (show 2 ≤ d by omega) hR, s_isHouse_f (show 2 ≤ d by omega) hR, s_may1, s_may0, m_take (show 2 ≤ d by omega), hs])
    · rw [if_neg (fun q => c2 q.2)]
      exact mOut.ns (by simp (implicitDefEqProofs := false) (disch := omega) only [↓rI_s, ↓rV_s, ↓rI_e, ↓rV_e, zc_eq, zc_ne, zc_lt, zc_ge, zc_gt, zc_le, zlt_t, zlt_f, zle_t, zle_f, zeq_t, zeq_f, lz, zadd, zsub, zmul, zneg, zb_e0, zb_e1, boo0, boo1, ua_s, ua_n, ua_ua, up_s, u2_s, u2_f, u2_c, u2_u2, Int.natCast_add, Int.zero_add, Int.add_zero, ↓reduceIte, ne_eq, not_true_eq_false, not_false_eq_true, Int.natCast_one, ↓k_X11_duel_0, ↓k_X11_duel_23, ↓mc_59, ↓zp_59_0, s_within, s_within_f, s_isPress, s_isPress_f, s_isWink (show 2 ≤ d by omega) hR, s_isWink_f (show 2 ≤ d by omega) hR, s_isHouse (show 2 ≤ d by omega) hR, s_isHouse_f (show 2 ≤ d by omega) hR, s_may1, s_may0, m_take (show 2 ≤ d by omega)])
  · rw [if_neg (fun q => c1 q.1)]
    exact mOut.ns (by simp (implicitDefEqProofs := false) (disch := omega) only [↓rI_s, ↓rV_s, ↓rI_e, ↓rV_e, zc_eq, zc_ne, zc_lt, zc_ge, zc_gt, zc_le, zlt_t, zlt_f, zle_t, zle_f, zeq_t, zeq_f, lz, zadd, zsub, zmul, zneg, zb_e0, zb_e1, boo0, boo1, ua_s, ua_n, ua_ua, up_s, u2_s, u2_f, u2_c, u2_u2, Int.natCast_add, Int.zero_add, Int.add_zero, ↓reduceIte, ne_eq, not_true_eq_false, not_false_eq_true, Int.natCast_one, ↓k_X11_duel_0, ↓k_X11_duel_23, ↓mc_59, ↓zp_59_0, s_within, s_within_f, s_isPress, s_isPress_f, s_isWink (show 2 ≤ d by omega) hR, s_isWink_f (show 2 ≤ d by omega) hR, s_isHouse (show 2 ≤ d by omega) hR, s_isHouse_f (show 2 ≤ d by omega) hR, s_may1, s_may0, m_take (show 2 ≤ d by omega)])
end DM
