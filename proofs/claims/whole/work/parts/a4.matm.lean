--DEPS a3.matf
abbrev bE (g : Int → Int) : va_E := .inl (3, 40, .inl (za g))
abbrev bI (b : Bool) : Int := if b = true then 1 else 0
section MB
variable {d : Nat} {I : Nat → Nat → Int} {A : Nat → Int → Int} {W : qWt} {R : zR} {F : zF} {s : Int → Int} {g : Int → Int}
theorem zb_get : (dyn (axs W [bE g]))[(dyn W).length]? = some (bE g) := by
  show (dyn W ++ [bE g])[(dyn W).length]? = _
  rw [List.getElem?_append_right (Nat.le_refl _), Nat.sub_self]; rfl
theorem zb_nar {k : Nat → qH → qR} : q_nar (zM I A W) 3 (zI 40) k = k (90 + (dyn W).length) (zM I A (axs W [bE fun _ => 0])) := by
  unfold q_nar
  rw [if_pos (by decide), zM_l]
  have : q_mk 3 (zI 40).toNatClampNeg = bE fun _ => 0 := rfl
  rw [this, zM_ax]
  rfl
theorem zb_ld {j : Int} {k : Int32 → qR} (h0 : 0 ≤ j) (h1 : j < 40) : q_bld (zM I A (axs W [bE g])) (.ref (90 + (dyn W).length)) (zI j) k = k (zI (g j)) := zx_bl (n := 40) (zM_g.trans zb_get) (.inr rfl) (by decide) h0 h1
theorem zb_st {j x : Int} {k : qH → qR} (h0 : 0 ≤ j) (h1 : j < 40) (hx : x = 0 ∨ x = 1) : q_bst (zM I A (axs W [bE g])) (.ref (90 + (dyn W).length)) (zI j) (zI x) k = k (zM I A (axs W [bE (up g j x)])) := by
  refine zx_bs (n := 40) (zM_g.trans zb_get) (by omega) (by decide) ?_ h0 h1 hx
  rw [zM_s]
  have : (dyn (axs W [bE g])).set (dyn W).length (bE (up g j x)) = dyn W ++ [bE (up g j x)] := by
    show (dyn W ++ [bE g]).set (dyn W).length _ = _
    rw [List.set_append_right _ _ (Nat.le_refl _), Nat.sub_self]; rfl
  rw [this]
  rfl
theorem m_reaches {w c : Nat} (hd : 10 ≤ d) (hY : mY R F s I A) (h1 : w < rW R) (h2 : c < rC R) : ∃ A', fr [72, 73] A A' ∧ q_call q_MT d 251 [.ref 59, .int (zI w), .int (zI c)] (zM I A W) = some (.inl (some (.int (zI (bI (htM R F s c w))))), zM I A' W) := by
  obtain ⟨d, rfl⟩ : ∃ e, d = e + 1 := ⟨d - 1, by omega⟩
  have hR := hY.1
  have hw := hR.1.2.1
  have hc4 := hR.1.2.2.1
  rw [cl_X11_reaches]
  simp (implicitDefEqProofs := false) (disch := omega) only [↓rI_s, ↓rV_s, ↓rI_e, ↓rV_e, zc_eq, zc_ne, zc_lt, zc_ge, zc_gt, zc_le, zlt_t, zlt_f, zle_t, zle_f, zeq_t, zeq_f, lz, zadd, zsub, zmul, zneg, zb_e0, zb_e1, boo0, boo1, ua_s, ua_n, ua_ua, up_s, u2_s, u2_f, u2_c, u2_u2, Int.natCast_add, Int.zero_add, Int.add_zero, ↓reduceIte, ne_eq, not_true_eq_false, not_false_eq_true, Int.natCast_one, ↓k_X11_reaches_0]
  refine lp_x (fun j (B : Nat → Int → Int) => q_run qm_X11_reaches (q_call q_MT d) 2 [.ref 59, .int (zI w), .int (zI c), .int (zI j)] [] (zM I B W)) (fun j B => fr [72, 73] A B ∧ hitB R F s c w j = false) (fun r => ∃ A', fr [72, 73] A A' ∧ r = some (.inl (some (.int (zI (bI (htM R F s c w))))), zM I A' W)) 18 ?_ ?_ 0 A (by omega) ⟨fr.refl, rfl⟩
  · rintro B ⟨f, h⟩
    refine ⟨B, f, ?_⟩
    have : htM R F s c w = false := h
    rw [this, k_X11_reaches_2]
    simp (implicitDefEqProofs := false) (disch := omega) only [↓rI_s, ↓rV_s, ↓rI_e, ↓rV_e, zc_eq, zc_ne, zc_lt, zc_ge, zc_gt, zc_le, zlt_t, zlt_f, zle_t, zle_f, zeq_t, zeq_f, lz, zadd, zsub, zmul, zneg, zb_e0, zb_e1, boo0, boo1, ua_s, ua_n, ua_ua, up_s, u2_s, u2_f, u2_c, u2_u2, Int.natCast_add, Int.zero_add, Int.add_zero, ↓reduceIte, ne_eq, not_true_eq_false, not_false_eq_true, Int.natCast_one]
    rfl
  · rintro j B hj ⟨f, h⟩
    have hYB := hY.t fi.refl (f.wd rfl)
    obtain ⟨B', f', e⟩ := m_cupOf (p := (j : Int) / 2 + 1) (h := (j : Int) - (j : Int) / 2 * 2) (W := W) (show 9 ≤ d by omega) hYB (w := w) (by omega) (by omega) (by omega)
    have cb := chit_b (R := R) (F := F) (s := s) (w := w) (p := (j : Int) / 2 + 1) (h := (j : Int) - (j : Int) / 2 * 2)
    have em : (j : Int) - (j : Int) / 2 * 2 = (j : Int) % 2 := by omega
    have eh : hitB R F s c w (j + 1) = (hitB R F s c w j || decide (chit R F s w ((j : Int) / 2 + 1) ((j : Int) % 2) = c)) := rfl
    rw [h, Bool.false_or] at eh
    rw [k_X11_reaches_2]
    by_cases q : chit R F s w ((j : Int) / 2 + 1) ((j : Int) - (j : Int) / 2 * 2) = c
    · refine .inl ⟨B', f.tr f', ?_⟩
      rw [← em, decide_eq_true q] at eh
      have ht : htM R F s c w = true := by
        have mo : ∀ k, j + 1 + k ≤ 18 → hitB R F s c w (j + 1 + k) = true := by
          intro k
          induction k with
          | zero => intro _; exact eh
          | succ k ih =>
            intro hk
            show (hitB R F s c w (j + 1 + k) || _) = true
            rw [ih (by omega), Bool.true_or]
        have := mo (18 - (j + 1)) (by omega)
        rwa [show j + 1 + (18 - (j + 1)) = 18 by omega] at this
      rw [q] at e
      rw [ht]
      simp (implicitDefEqProofs := false) (disch := omega) only [↓rI_s, ↓rV_s, ↓rI_e, ↓rV_e, zc_eq, zc_ne, zc_lt, zc_ge, zc_gt, zc_le, zlt_t, zlt_f, zle_t, zle_f, zeq_t, zeq_f, lz, zadd, zsub, zmul, zneg, zb_e0, zb_e1, boo0, boo1, ua_s, ua_n, ua_ua, up_s, u2_s, u2_f, u2_c, u2_u2, Int.natCast_add, Int.zero_add, Int.add_zero, ↓reduceIte, ne_eq, not_true_eq_false, not_false_eq_true, Int.natCast_one, zdiv, ↓mc_59, ↓cI e]
      rfl
    · refine .inr ⟨B', ⟨f.tr f', ?_⟩, ?_⟩
      · rw [eh, ← em, decide_eq_false q]
      · simp (implicitDefEqProofs := false) (disch := omega) only [↓rI_s, ↓rV_s, ↓rI_e, ↓rV_e, zc_eq, zc_ne, zc_lt, zc_ge, zc_gt, zc_le, zlt_t, zlt_f, zle_t, zle_f, zeq_t, zeq_f, lz, zadd, zsub, zmul, zneg, zb_e0, zb_e1, boo0, boo1, ua_s, ua_n, ua_ua, up_s, u2_s, u2_f, u2_c, u2_u2, Int.natCast_add, Int.zero_add, Int.add_zero, ↓reduceIte, ne_eq, not_true_eq_false, not_false_eq_true, Int.natCast_one, zdiv, ↓mc_59, ↓cI e]
end MB
