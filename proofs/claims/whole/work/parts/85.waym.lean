--DEPS 84.way
section MW
variable {d : Nat} {I : Nat → Nat → Int} {A : Nat → Int → Int} {W : qWt} {R : zR} {F : zF} {s : Int → Int}
def mW (h : Int) (t : zQ) (A : Nat → Int → Int) : Prop := (∀ x : Int, 0 ≤ x → x < 30 → A 82 x = t.1 x) ∧ (∀ x : Int, 0 ≤ x → x < 30 → t.1 x ≠ -1 → x ≠ h → A 83 x = t.2.1 x) ∧ (∀ i : Int, 0 ≤ i → i < t.2.2.2.1 → A 84 i = t.2.2.1 i)
abbrev vL : List Nat := [72, 73, 82, 83, 84]
theorem mW.t {h : Int} {t : zQ} {A A' : Nat → Int → Int} (m : mW h t A) (g : fr [72, 73] A A') : mW h t A' := by
  unfold mW
  rw [g 82 rfl, g 83 rfl, g 84 rfl]; exact m
theorem wV.lt {h : Int} {t : zQ} {x : Int} (v : wV R h t) (hx : 0 ≤ x ∧ x < 30) (hn : t.1 x = -1) : t.2.2.2.1 < 30 := by
  have vm := v.m
  have v2 := v.2.1
  obtain ⟨k, hk⟩ := Int.eq_ofNat_of_zero_le hx.1
  have h29 : ∀ n : Nat, k < n → cnt n (fun x : Nat => decide (t.1 x ≠ -1)) ≤ n - 1 := by
    intro n
    induction n with
    | zero => intro h; omega
    | succ n ih =>
      intro hn2
      by_cases e : k = n
      · subst e
        rw [cnt_f (by rw [← hk, hn]; decide)]
        have := cnt_hi k fun x : Nat => decide (t.1 x ≠ -1)
        omega
      · have := ih (by omega)
        show cnt n _ + _ ≤ _
        split <;> omega
  have := h29 30 (by omega)
  omega
theorem m_k {w x : Int} {i k : Nat} {t : zQ} {l8 l9 l10 : Value} (hd : 6 ≤ d) (hY : mY R F s I A) (h0 : 0 ≤ w ∧ w < rW R) (hf : free R s w) (hv : wV R (s w) t) (hW : mW (s w) t A) (hx : 0 ≤ x ∧ x < rF R) (hx1 : t.1 x ≠ -1) (hm : t.2.2.2.2.1 = -1) (hk : k < 18) (hi : i < 30) (e52 : I 59 52 = -1) (e53 : I 59 53 = -1) : (∃ A', fr vL A A' ∧ (wk R F s w x ((k : Int) / 2 + 1) ((k : Int) - (k : Int) / 2 * 2) t).2.2.2.2.1 ≠ -1 ∧ q_run qm_X11_findWay (q_call q_MT d) 106 [.ref 59, .int (zI w), .int (zI (s w)), .int (zI t.2.2.2.1), .int (zI i), .int (zI x), .int (zI (unW R s w x)), .int (zI k), l8, l9, l10] [] (zM I A W) = some (.inl none, zM (u2 (u2 I 59 52 (wk R F s w x ((k : Int) / 2 + 1) ((k : Int) - (k : Int) / 2 * 2) t).2.2.2.2.1) 59 53 (wk R F s w x ((k : Int) / 2 + 1) ((k : Int) - (k : Int) / 2 * 2) t).2.2.2.2.2) A' W)) ∨ (∃ A' m8 m9 m10, fr vL A A' ∧ mW (s w) (wk R F s w x ((k : Int) / 2 + 1) ((k : Int) - (k : Int) / 2 * 2) t) A' ∧ (wk R F s w x ((k : Int) / 2 + 1) ((k : Int) - (k : Int) / 2 * 2) t).2.2.2.2.1 = -1 ∧ q_run qm_X11_findWay (q_call q_MT d) 106 [.ref 59, .int (zI w), .int (zI (s w)), .int (zI t.2.2.2.1), .int (zI i), .int (zI x), .int (zI (unW R s w x)), .int (zI k), l8, l9, l10] [] (zM I A W) = q_run qm_X11_findWay (q_call q_MT d) 106 [.ref 59, .int (zI w), .int (zI (s w)), .int (zI (wk R F s w x ((k : Int) / 2 + 1) ((k : Int) - (k : Int) / 2 * 2) t).2.2.2.1), .int (zI i), .int (zI x), .int (zI (unW R s w x)), .int (zI (k + 1)), m8, m9, m10] [] (zM I A' W)) := by
  have hR := hY.1
  have hfe := hR.1.2.2.2.2.1
  have hf1 := hR.1.2.2.2.1
  have hc4 := hR.1.2.2.1
  have hF := hY.2.2.2.w
  have e24 := hR.2.2.2.2.1
  generalize hp : (k : Int) / 2 + 1 = p
  generalize hq : (k : Int) - (k : Int) / 2 * 2 = q
  have hpb : 1 ≤ p ∧ p ≤ 9 := by omega
  have hqb : q = 0 ∨ q = 1 := by omega
  obtain ⟨A1, g1, e1⟩ := m_fliesBy (p := p) (u := unW R s w x) (x := x) (W := W) (show 5 ≤ d by omega) hR hY.2.2.2 h0.1 h0.2
  rw [hY.2.1] at e1
  have ef : fl R F s w p (unW R s w x) x = fW R F s w x p := rfl
  rw [ef] at e1
  have fb := fW_b (R := R) (s := s) (w := w) (x := x) (p := p) hF
  have hW1 := hW.t g1
  have vm := hv.m
  have v4 := hv.2.2.2.1 x hx.1 (by omega) hx1
  have va := hv.1 x hx.1 (by omega)
  have e82 := hW1.1 x hx.1 (by omega)
  -- to the place 150
  have to150 : q_run qm_X11_findWay (q_call q_MT d) 106 [.ref 59, .int (zI w), .int (zI (s w)), .int (zI t.2.2.2.1), .int (zI i), .int (zI x), .int (zI (unW R s w x)), .int (zI k), l8, l9, l10] [] (zM I A W) = q_run qm_X11_findWay (q_call q_MT d) 150 [.ref 59, .int (zI w), .int (zI (s w)), .int (zI t.2.2.2.1), .int (zI i), .int (zI x), .int (zI (unW R s w x)), .int (zI k), .int (zI (fW R F s w x p)), l9, l10] [.int (zI (if q = 0 then x + fW R F s w x p else x - fW R F s w x p))] (zM I A1 W) := by
    rw [k_X11_findWay_106]
    rcases hqb with rfl | rfl
    · rw [if_pos (show (0 : Int) = 0 from rfl)]
      simp (implicitDefEqProofs := false) (disch := omega) only [↓rI_s, ↓rV_s, ↓rI_e, ↓rV_e, zc_eq, zc_ne, zc_lt, zc_ge, zc_gt, zc_le, zlt_t, zlt_f, zle_t, zle_f, zeq_t, zeq_f, lz, zadd, zsub, zmul, zneg, zb_e0, zb_e1, boo0, boo1, ua_s, ua_n, ua_ua, up_s, u2_s, u2_f, u2_c, u2_u2, Int.natCast_add, Int.zero_add, Int.add_zero, ↓reduceIte, ne_eq, not_true_eq_false, not_false_eq_true, Int.natCast_one, ↓mc_59, zdiv, hp, e1, hq]
    · rw [if_neg (show ¬ (1 : Int) = 0 by decide)]
      simp (implicitDefEqProofs := false) (disch := omega) only [↓rI_s, ↓rV_s, ↓rI_e, ↓rV_e, zc_eq, zc_ne, zc_lt, zc_ge, zc_gt, zc_le, zlt_t, zlt_f, zle_t, zle_f, zeq_t, zeq_f, lz, zadd, zsub, zmul, zneg, zb_e0, zb_e1, boo0, boo1, ua_s, ua_n, ua_ua, up_s, u2_s, u2_f, u2_c, u2_u2, Int.natCast_add, Int.zero_add, Int.add_zero, ↓reduceIte, ne_eq, not_true_eq_false, not_false_eq_true, Int.natCast_one, ↓mc_59, zdiv, hp, e1, hq]
  rw [to150, k_X11_findWay_150]
  generalize hto : (if q = 0 then x + fW R F s w x p else x - fW R F s w x p) = to
  have tob : -60 ≤ to ∧ to ≤ 90 := by rw [← hto]; split <;> omega
  have stay : wk R F s w x p q t = t → (∃ A' m8 m9 m10, fr vL A A' ∧ mW (s w) (wk R F s w x p q t) A' ∧ (wk R F s w x p q t).2.2.2.2.1 = -1 ∧ q_run qm_X11_findWay (q_call q_MT d) 286 [.ref 59, .int (zI w), .int (zI (s w)), .int (zI t.2.2.2.1), .int (zI i), .int (zI x), .int (zI (unW R s w x)), .int (zI k), .int (zI (fW R F s w x p)), .int (zI to), l10] [] (zM I A1 W) = q_run qm_X11_findWay (q_call q_MT d) 106 [.ref 59, .int (zI w), .int (zI (s w)), .int (zI (wk R F s w x p q t).2.2.2.1), .int (zI i), .int (zI x), .int (zI (unW R s w x)), .int (zI (k + 1)), m8, m9, m10] [] (zM I A' W)) := by
    intro h
    rw [h]
    refine ⟨A1, .int (zI (fW R F s w x p)), .int (zI to), l10, g1.wd rfl, hW1, hm, ?_⟩
    rw [k_X11_findWay_286]
    simp (implicitDefEqProofs := false) (disch := omega) only [↓rI_s, ↓rV_s, ↓rI_e, ↓rV_e, zc_eq, zc_ne, zc_lt, zc_ge, zc_gt, zc_le, zlt_t, zlt_f, zle_t, zle_f, zeq_t, zeq_f, lz, zadd, zsub, zmul, zneg, zb_e0, zb_e1, boo0, boo1, ua_s, ua_n, ua_ua, up_s, u2_s, u2_f, u2_c, u2_u2, Int.natCast_add, Int.zero_add, Int.add_zero, ↓reduceIte, ne_eq, not_true_eq_false, not_false_eq_true, Int.natCast_one]
  by_cases c1 : fW R F s w x p = 0
  · have h : wk R F s w x p q t = t := if_pos (.inr c1)
    obtain ⟨A', m8, m9, m10, a1, a2, a3, a4⟩ := stay h
    refine .inr ⟨A', m8, m9, m10, a1, a2, a3, ?_⟩
    rw [← a4]
    simp (implicitDefEqProofs := false) (disch := omega) only [↓rI_s, ↓rV_s, ↓rI_e, ↓rV_e, zc_eq, zc_ne, zc_lt, zc_ge, zc_gt, zc_le, zlt_t, zlt_f, zle_t, zle_f, zeq_t, zeq_f, lz, zadd, zsub, zmul, zneg, zb_e0, zb_e1, boo0, boo1, ua_s, ua_n, ua_ua, up_s, u2_s, u2_f, u2_c, u2_u2, Int.natCast_add, Int.zero_add, Int.add_zero, ↓reduceIte, ne_eq, not_true_eq_false, not_false_eq_true, Int.natCast_one]
  · have ek : wk R F s w x p q t = gW R t to (t.1 x + 1) (if t.2.1 x = -1 then 10 * p + q else t.2.1 x) := by
      unfold wk
      rw [if_neg (by omega), hto]
    by_cases c2 : to < 0 ∨ rF R ≤ to
    · have h : wk R F s w x p q t = t := by rw [ek]; exact if_pos c2
      obtain ⟨A', m8, m9, m10, a1, a2, a3, a4⟩ := stay h
      refine .inr ⟨A', m8, m9, m10, a1, a2, a3, ?_⟩
      rw [← a4]
      by_cases c3 : to < 0
      · simp (implicitDefEqProofs := false) (disch := omega) only [↓rI_s, ↓rV_s, ↓rI_e, ↓rV_e, zc_eq, zc_ne, zc_lt, zc_ge, zc_gt, zc_le, zlt_t, zlt_f, zle_t, zle_f, zeq_t, zeq_f, lz, zadd, zsub, zmul, zneg, zb_e0, zb_e1, boo0, boo1, ua_s, ua_n, ua_ua, up_s, u2_s, u2_f, u2_c, u2_u2, Int.natCast_add, Int.zero_add, Int.add_zero, ↓reduceIte, ne_eq, not_true_eq_false, not_false_eq_true, Int.natCast_one]
      · simp (implicitDefEqProofs := false) (disch := omega) only [↓rI_s, ↓rV_s, ↓rI_e, ↓rV_e, zc_eq, zc_ne, zc_lt, zc_ge, zc_gt, zc_le, zlt_t, zlt_f, zle_t, zle_f, zeq_t, zeq_f, lz, zadd, zsub, zmul, zneg, zb_e0, zb_e1, boo0, boo1, ua_s, ua_n, ua_ua, up_s, u2_s, u2_f, u2_c, u2_u2, Int.natCast_add, Int.zero_add, Int.add_zero, ↓reduceIte, ne_eq, not_true_eq_false, not_false_eq_true, Int.natCast_one, ↓zg_59_24, e24]
    · -- to the place 204
      have to204 : (if q_cmp .eq (zI (fW R F s w x p)) (0 : Int32) = true then q_run qm_X11_findWay (q_call q_MT d) 286 [.ref 59, .int (zI w), .int (zI (s w)), .int (zI t.2.2.2.1), .int (zI i), .int (zI x), .int (zI (unW R s w x)), .int (zI k), .int (zI (fW R F s w x p)), .int (zI to), l10] [] (zM I A1 W) else if q_cmp .lt (zI to) (0 : Int32) = true then q_run qm_X11_findWay (q_call q_MT d) 286 [.ref 59, .int (zI w), .int (zI (s w)), .int (zI t.2.2.2.1), .int (zI i), .int (zI x), .int (zI (unW R s w x)), .int (zI k), .int (zI (fW R F s w x p)), .int (zI to), l10] [] (zM I A1 W) else q_gI (zM I A1 W) (.ref 59) 11 24 fun x1 => if q_cmp .lt (zI to) x1 = true then (if q_cmp .ne (zI x) (zI (s w)) = true then q_gR (zM I A1 W) (.ref 59) 11 50 fun r2 => q_ald (zM I A1 W) (.ref r2) 0 (zI x) fun x3 => q_run qm_X11_findWay (q_call q_MT d) 204 [.ref 59, .int (zI w), .int (zI (s w)), .int (zI t.2.2.2.1), .int (zI i), .int (zI x), .int (zI (unW R s w x)), .int (zI k), .int (zI (fW R F s w x p)), .int (zI to), l10] [.int x3] (zM I A1 W) else q_run qm_X11_findWay (q_call q_MT d) 204 [.ref 59, .int (zI w), .int (zI (s w)), .int (zI t.2.2.2.1), .int (zI i), .int (zI x), .int (zI (unW R s w x)), .int (zI k), .int (zI (fW R F s w x p)), .int (zI to), l10] [.int ((10 : Int32) * (zI k / (2 : Int32) + (1 : Int32)) + (zI k - zI k / (2 : Int32) * (2 : Int32)))] (zM I A1 W)) else q_run qm_X11_findWay (q_call q_MT d) 286 [.ref 59, .int (zI w), .int (zI (s w)), .int (zI t.2.2.2.1), .int (zI i), .int (zI x), .int (zI (unW R s w x)), .int (zI k), .int (zI (fW R F s w x p)), .int (zI to), l10] [] (zM I A1 W)) = q_run qm_X11_findWay (q_call q_MT d) 204 [.ref 59, .int (zI w), .int (zI (s w)), .int (zI t.2.2.2.1), .int (zI i), .int (zI x), .int (zI (unW R s w x)), .int (zI k), .int (zI (fW R F s w x p)), .int (zI to), l10] [.int (zI (if t.2.1 x = -1 then 10 * p + q else t.2.1 x))] (zM I A1 W) := by
        have pw := hY.2.2.1.1.1 w h0.1 h0.2
        have c0 := hf.1
        by_cases c : t.2.1 x = -1
        · have ex := v4.1.mp c
          rw [if_pos c]
          simp (implicitDefEqProofs := false) (disch := omega) only [↓rI_s, ↓rV_s, ↓rI_e, ↓rV_e, zc_eq, zc_ne, zc_lt, zc_ge, zc_gt, zc_le, zlt_t, zlt_f, zle_t, zle_f, zeq_t, zeq_f, lz, zadd, zsub, zmul, zneg, zb_e0, zb_e1, boo0, boo1, ua_s, ua_n, ua_ua, up_s, u2_s, u2_f, u2_c, u2_u2, Int.natCast_add, Int.zero_add, Int.add_zero, ↓reduceIte, ne_eq, not_true_eq_false, not_false_eq_true, Int.natCast_one, ↓zg_59_24, e24, zdiv, hp, hq]
        · have ex : x ≠ s w := fun h => c (v4.1.mpr h)
          have e83 := hW1.2.1 x hx.1 (by omega) hx1 ex
          rw [if_neg c]
          simp (implicitDefEqProofs := false) (disch := omega) only [↓rI_s, ↓rV_s, ↓rI_e, ↓rV_e, zc_eq, zc_ne, zc_lt, zc_ge, zc_gt, zc_le, zlt_t, zlt_f, zle_t, zle_f, zeq_t, zeq_f, lz, zadd, zsub, zmul, zneg, zb_e0, zb_e1, boo0, boo1, ua_s, ua_n, ua_ua, up_s, u2_s, u2_f, u2_c, u2_u2, Int.natCast_add, Int.zero_add, Int.add_zero, ↓reduceIte, ne_eq, not_true_eq_false, not_false_eq_true, Int.natCast_one, ↓zg_59_24, e24, ↓zg_59_50, zl_83, e83]
      rw [to204, k_X11_findWay_204]
      have ec := fun kx k => m_cupAt (x := to) (I := I) (A := A1) (W := W) (kx := kx) (k := k) (show 1 ≤ d by omega) (hR.fr g1 rfl) (by omega)
      have cl := cupAt_lo R to
      have chh := cupAt_hi R to
      by_cases c3 : cupAt R to = -1
      · by_cases c4 : t.1 to = -1
        · have h : wk R F s w x p q t = (up t.1 to (t.1 x + 1), up t.2.1 to (if t.2.1 x = -1 then 10 * p + q else t.2.1 x), up t.2.2.1 t.2.2.2.1 to, t.2.2.2.1 + 1, t.2.2.2.2.1, t.2.2.2.2.2) := by
            rw [ek]
            unfold gW
            rw [if_neg c2, if_neg (fun q => q c3), if_neg (fun q => q c4)]
          have hlt := hv.lt (show 0 ≤ to ∧ to < 30 by omega) c4
          have e82' := hW1.1 to (by omega) (by omega)
          rw [c4] at e82'
          rw [h]
          have hxt : x ≠ to := fun e => hx1 (by rw [e]; exact c4)
          refine .inr ⟨ua (ua (ua A1 82 (up (A1 82) to (t.1 x + 1))) 83 (up (A1 83) to (if t.2.1 x = -1 then 10 * p + q else t.2.1 x))) 84 (up (A1 84) t.2.2.2.1 to), .int (zI (fW R F s w x p)), .int (zI to), .int (zI (if t.2.1 x = -1 then 10 * p + q else t.2.1 x)), ((((g1.wd rfl).a rfl).a rfl).a rfl), ⟨fun y y0 y1 => ?_, fun y y0 y1 hy hyh => ?_, fun j j0 j1 => ?_⟩, hm, ?_⟩
          · show up (A1 82) to _ y = up t.1 to _ y
            unfold up
            split
            · rfl
            · exact hW1.1 y y0 y1
          · show up (A1 83) to _ y = up t.2.1 to _ y
            dsimp only at hy
            by_cases e : y = to
            · subst e; rw [up_s, up_s]
            · rw [up_n e] at hy
              rw [up_n e, up_n e]; exact hW1.2.1 y y0 y1 hy hyh
          · show up (A1 84) _ to j = up t.2.2.1 _ to j
            dsimp only at j1
            by_cases e : j = t.2.2.2.1
            · subst e; rw [up_s, up_s]
            · rw [up_n e, up_n e]; exact hW1.2.2 j j0 (by omega)
          · simp (implicitDefEqProofs := false) (disch := omega) only [↓rI_s, ↓rV_s, ↓rI_e, ↓rV_e, zc_eq, zc_ne, zc_lt, zc_ge, zc_gt, zc_le, zlt_t, zlt_f, zle_t, zle_f, zeq_t, zeq_f, lz, zadd, zsub, zmul, zneg, zb_e0, zb_e1, boo0, boo1, ua_s, ua_n, ua_ua, up_s, u2_s, u2_f, u2_c, u2_u2, Int.natCast_add, Int.zero_add, Int.add_zero, ↓reduceIte, ne_eq, not_true_eq_false, not_false_eq_true, Int.natCast_one, ↓mc_59, ↓ec, ↓zg_59_49, zl_82, e82', e82, zs_82, ↓zg_59_50, zs_83, ↓zg_59_51, zs_84, ↓k_X11_findWay_283, ↓k_X11_findWay_286]
        · have h : wk R F s w x p q t = t := by
            rw [ek]
            unfold gW
            rw [if_neg c2, if_neg (fun q => q c3), if_pos c4]
          have e82' := hW1.1 to (by omega) (by omega)
          have vb := hv.1 to (by omega) (by omega)
          rw [h]
          refine .inr ⟨A1, .int (zI (fW R F s w x p)), .int (zI to), .int (zI (if t.2.1 x = -1 then 10 * p + q else t.2.1 x)), g1.wd rfl, hW1, hm, ?_⟩
          simp (implicitDefEqProofs := false) (disch := omega) only [↓rI_s, ↓rV_s, ↓rI_e, ↓rV_e, zc_eq, zc_ne, zc_lt, zc_ge, zc_gt, zc_le, zlt_t, zlt_f, zle_t, zle_f, zeq_t, zeq_f, lz, zadd, zsub, zmul, zneg, zb_e0, zb_e1, boo0, boo1, ua_s, ua_n, ua_ua, up_s, u2_s, u2_f, u2_c, u2_u2, Int.natCast_add, Int.zero_add, Int.add_zero, ↓reduceIte, ne_eq, not_true_eq_false, not_false_eq_true, Int.natCast_one, ↓mc_59, ↓ec, ↓zg_59_49, zl_82, e82', ↓k_X11_findWay_286]
      · have h : wk R F s w x p q t = (t.1, t.2.1, t.2.2.1, t.2.2.2.1, t.1 x + 1, if t.2.1 x = -1 then 10 * p + q else t.2.1 x) := by
          rw [ek]
          unfold gW
          rw [if_neg c2, if_pos c3]
        rw [h]
        refine .inl ⟨A1, g1.wd rfl, by dsimp only; omega, ?_⟩
        simp (implicitDefEqProofs := false) (disch := omega) only [↓rI_s, ↓rV_s, ↓rI_e, ↓rV_e, zc_eq, zc_ne, zc_lt, zc_ge, zc_gt, zc_le, zlt_t, zlt_f, zle_t, zle_f, zeq_t, zeq_f, lz, zadd, zsub, zmul, zneg, zb_e0, zb_e1, boo0, boo1, ua_s, ua_n, ua_ua, up_s, u2_s, u2_f, u2_c, u2_u2, Int.natCast_add, Int.zero_add, Int.add_zero, ↓reduceIte, ne_eq, not_true_eq_false, not_false_eq_true, Int.natCast_one, ↓mc_59, ↓ec, ↓zg_59_49, zl_82, e82, ↓zp_59_52, ↓zp_59_53]
theorem wr_stay {w x : Int} {t : zQ} {j : Nat} (c : (wr R F s w x j t).2.2.2.2.1 ≠ -1) : ∀ k : Nat, wr R F s w x (j + k) t = wr R F s w x j t
  | 0 => rfl
  | k + 1 => by
    have z : wr R F s w x (j + (k + 1)) t = wk R F s w x (((j + k : Nat) : Int) / 2 + 1) (((j + k : Nat) : Int) - ((j + k : Nat) : Int) / 2 * 2) (wr R F s w x (j + k) t) := rfl
    rw [z, wr_stay c k]
    exact if_pos (.inl c)
theorem wb_stay {w : Int} {t : zQ} (c : t.2.2.2.2.1 ≠ -1) : ∀ f i : Nat, wb R F s w f i t = t
  | 0, _ => rfl
  | f + 1, i => if_neg fun q => c q.2
theorem m_row {w x : Int} {i : Nat} {t : zQ} {l8 l9 l10 : Value} (hd : 6 ≤ d) (hY : mY R F s I A) (h0 : 0 ≤ w ∧ w < rW R) (hf : free R s w) (hv : wV R (s w) t) (hW : mW (s w) t A) (hx : 0 ≤ x ∧ x < rF R) (hx1 : t.1 x ≠ -1) (hm : t.2.2.2.2.1 = -1) (hi : i < 30) (e52 : I 59 52 = -1) (e53 : I 59 53 = -1) : (∃ A', fr vL A A' ∧ (wr R F s w x 18 t).2.2.2.2.1 ≠ -1 ∧ q_run qm_X11_findWay (q_call q_MT d) 106 [.ref 59, .int (zI w), .int (zI (s w)), .int (zI t.2.2.2.1), .int (zI i), .int (zI x), .int (zI (unW R s w x)), .int (zI 0), l8, l9, l10] [] (zM I A W) = some (.inl none, zM (u2 (u2 I 59 52 (wr R F s w x 18 t).2.2.2.2.1) 59 53 (wr R F s w x 18 t).2.2.2.2.2) A' W)) ∨ (∃ A' m8 m9 m10, fr vL A A' ∧ mW (s w) (wr R F s w x 18 t) A' ∧ (wr R F s w x 18 t).2.2.2.2.1 = -1 ∧ q_run qm_X11_findWay (q_call q_MT d) 106 [.ref 59, .int (zI w), .int (zI (s w)), .int (zI t.2.2.2.1), .int (zI i), .int (zI x), .int (zI (unW R s w x)), .int (zI 0), l8, l9, l10] [] (zM I A W) = q_run qm_X11_findWay (q_call q_MT d) 106 [.ref 59, .int (zI w), .int (zI (s w)), .int (zI (wr R F s w x 18 t).2.2.2.1), .int (zI i), .int (zI x), .int (zI (unW R s w x)), .int (zI ((18 : Nat) : Int)), m8, m9, m10] [] (zM I A' W)) := by
  have hR := hY.1
  have hfe := hR.1.2.2.2.2.1
  refine lp_x (fun k (B : (Nat → Int → Int) × Value × Value × Value) => q_run qm_X11_findWay (q_call q_MT d) 106 [.ref 59, .int (zI w), .int (zI (s w)), .int (zI (wr R F s w x k t).2.2.2.1), .int (zI i), .int (zI x), .int (zI (unW R s w x)), .int (zI k), B.2.1, B.2.2.1, B.2.2.2] [] (zM I B.1 W)) (fun k B => fr vL A B.1 ∧ mW (s w) (wr R F s w x k t) B.1 ∧ (wr R F s w x k t).2.2.2.2.1 = -1) (fun r => (∃ A', fr vL A A' ∧ (wr R F s w x 18 t).2.2.2.2.1 ≠ -1 ∧ r = some (.inl none, zM (u2 (u2 I 59 52 (wr R F s w x 18 t).2.2.2.2.1) 59 53 (wr R F s w x 18 t).2.2.2.2.2) A' W)) ∨ (∃ A' m8 m9 m10, fr vL A A' ∧ mW (s w) (wr R F s w x 18 t) A' ∧ (wr R F s w x 18 t).2.2.2.2.1 = -1 ∧ r = q_run qm_X11_findWay (q_call q_MT d) 106 [.ref 59, .int (zI w), .int (zI (s w)), .int (zI (wr R F s w x 18 t).2.2.2.1), .int (zI i), .int (zI x), .int (zI (unW R s w x)), .int (zI ((18 : Nat) : Int)), m8, m9, m10] [] (zM I A' W))) 18 ?_ ?_ 0 (A, l8, l9, l10) (by omega) ⟨fr.refl, hW, hm⟩
  · rintro ⟨B, n8, n9, n10⟩ ⟨f, g, h⟩
    exact .inr ⟨B, n8, n9, n10, f, g, h, rfl⟩
  · rintro k ⟨B, n8, n9, n10⟩ hk ⟨f, g, h⟩
    dsimp only at f g h ⊢
    have vk := hv.r (F := F) (s := s) (w := w) hR.1 (show 0 ≤ x ∧ x < 30 by omega) hx1 k (by omega)
    have ek : wr R F s w x (k + 1) t = wk R F s w x ((k : Int) / 2 + 1) ((k : Int) - (k : Int) / 2 * 2) (wr R F s w x k t) := rfl
    rcases m_k (l8 := n8) (l9 := n9) (l10 := n10) (W := W) hd (hY.t fi.refl (f.wd rfl)) h0 hf vk.1 g hx (by rw [vk.2.1]; exact hx1) h hk hi e52 e53 with ⟨A', a1, a2, a3⟩ | ⟨A', m8, m9, m10, a1, a2, a3, a4⟩
    · rw [← ek] at a2 a3
      have es := wr_stay a2 (18 - (k + 1))
      rw [show k + 1 + (18 - (k + 1)) = 18 by omega] at es
      refine .inl (.inl ⟨A', f.tr a1, by rw [es]; exact a2, ?_⟩)
      rw [es]; exact a3
    · rw [← ek] at a2 a3 a4
      exact .inr ⟨(A', m8, m9, m10), ⟨f.tr a1, a2, a3⟩, a4⟩
theorem m_bfs {w : Int} (hd : 6 ≤ d) (h0 : 0 ≤ w ∧ w < rW R) (hf : free R s w) : ∀ (f i : Nat) (t : zQ) (A : Nat → Int → Int) (l5 l6 l7 l8 l9 l10 : Value), i + f = 30 → mY R F s I A → wV R (s w) t → mW (s w) t A → t.2.2.2.2.1 = -1 → I 59 52 = -1 → I 59 53 = -1 → ∃ A', fr vL A A' ∧ q_run qm_X11_findWay (q_call q_MT d) 68 [.ref 59, .int (zI w), .int (zI (s w)), .int (zI t.2.2.2.1), .int (zI i), l5, l6, l7, l8, l9, l10] [] (zM I A W) = some (.inl none, zM (u2 (u2 I 59 52 (wb R F s w f i t).2.2.2.2.1) 59 53 (wb R F s w f i t).2.2.2.2.2) A' W) := by
  intro f
  have idI : I 59 52 = -1 → I 59 53 = -1 → u2 (u2 I 59 52 (-1)) 59 53 (-1) = I := by
    intro a b
    have e1 : u2 I 59 52 (-1) = I := by rw [← a]; exact u2_id
    rw [e1, ← b]; exact u2_id
  induction f with
  | zero =>
    intro i t A l5 l6 l7 l8 l9 l10 hi hY hv hW hm e52 e53
    have vm := hv.m
    refine ⟨A, fr.refl, ?_⟩
    have : wb R F s w 0 i t = t := rfl
    rw [this, hm, hv.2.2.2.2.2.2.1 hm, idI e52 e53, k_X11_findWay_68]
    simp (implicitDefEqProofs := false) (disch := omega) only [↓rI_s, ↓rV_s, ↓rI_e, ↓rV_e, zc_eq, zc_ne, zc_lt, zc_ge, zc_gt, zc_le, zlt_t, zlt_f, zle_t, zle_f, zeq_t, zeq_f, lz, zadd, zsub, zmul, zneg, zb_e0, zb_e1, boo0, boo1, ua_s, ua_n, ua_ua, up_s, u2_s, u2_f, u2_c, u2_u2, Int.natCast_add, Int.zero_add, Int.add_zero, ↓reduceIte, ne_eq, not_true_eq_false, not_false_eq_true, Int.natCast_one]
  | succ f ih =>
    intro i t A l5 l6 l7 l8 l9 l10 hi hY hv hW hm e52 e53
    have vm := hv.m
    have hR := hY.1
    have hfe := hR.1.2.2.2.2.1
    by_cases c : (i : Int) < t.2.2.2.1
    · have eb : wb R F s w (f + 1) i t = wb R F s w f (i + 1) (wr R F s w (t.2.2.1 i) 18 t) := if_pos ⟨c, hm⟩
      have q := hv.2.2.1 i (by omega) c
      have e84 := hW.2.2 i (by omega) c
      generalize hx : t.2.2.1 (i : Int) = x at q e84 eb
      have vr := hv.r (F := F) (s := s) (w := w) hR.1 ⟨q.1, by omega⟩ q.2.2 18 (by omega)
      have hV := hY.2.2.1.1
      have m0 := many_lo R s x
      have m1 := many_hi R s x
      have hw := hR.1.2.1
      have pw := hV.1 w h0.1 h0.2
      have ov : over R s w = many R s (s w) - 1 - s (10 + w) := by unfold over; rw [if_neg (by have := hf.1; omega)]
      have hov := hf.2
      have c0 := hf.1
      have i1 := fun kx k => m_manyAt (x := x) (I := I) (A := A) (W := W) (kx := kx) (k := k) (show 1 ≤ d by omega) hR (by rw [hY.2.1]; exact hV.1.b hR.1) (by omega) (by omega)
      simp only [hY.2.1] at i1
      have to106 : q_run qm_X11_findWay (q_call q_MT d) 68 [.ref 59, .int (zI w), .int (zI (s w)), .int (zI t.2.2.2.1), .int (zI i), l5, l6, l7, l8, l9, l10] [] (zM I A W) = q_run qm_X11_findWay (q_call q_MT d) 106 [.ref 59, .int (zI w), .int (zI (s w)), .int (zI t.2.2.2.1), .int (zI i), .int (zI x), .int (zI (unW R s w x)), .int (zI 0), l8, l9, l10] [] (zM I A W) := by
        rw [k_X11_findWay_68]
        unfold unW
        by_cases cx : x = s w
        · rw [if_pos cx, show s (10 + w) = many R s x - 1 by rw [cx]; omega]
          simp (implicitDefEqProofs := false) (disch := omega) only [↓rI_s, ↓rV_s, ↓rI_e, ↓rV_e, zc_eq, zc_ne, zc_lt, zc_ge, zc_gt, zc_le, zlt_t, zlt_f, zle_t, zle_f, zeq_t, zeq_f, lz, zadd, zsub, zmul, zneg, zb_e0, zb_e1, boo0, boo1, ua_s, ua_n, ua_ua, up_s, u2_s, u2_f, u2_c, u2_u2, Int.natCast_add, Int.zero_add, Int.add_zero, ↓reduceIte, ne_eq, not_true_eq_false, not_false_eq_true, Int.natCast_one, ↓zg_59_51, zl_84, e84, ↓mc_59, ↓i1, ↓k_X11_findWay_100]
        · rw [if_neg cx]
          simp (implicitDefEqProofs := false) (disch := omega) only [↓rI_s, ↓rV_s, ↓rI_e, ↓rV_e, zc_eq, zc_ne, zc_lt, zc_ge, zc_gt, zc_le, zlt_t, zlt_f, zle_t, zle_f, zeq_t, zeq_f, lz, zadd, zsub, zmul, zneg, zb_e0, zb_e1, boo0, boo1, ua_s, ua_n, ua_ua, up_s, u2_s, u2_f, u2_c, u2_u2, Int.natCast_add, Int.zero_add, Int.add_zero, ↓reduceIte, ne_eq, not_true_eq_false, not_false_eq_true, Int.natCast_one, ↓zg_59_51, zl_84, e84, ↓mc_59, ↓i1, ↓k_X11_findWay_100, Int.sub_zero]
      rw [to106, eb]
      rcases m_row (l8 := l8) (l9 := l9) (l10 := l10) (W := W) hd hY h0 hf hv hW ⟨q.1, q.2.1⟩ q.2.2 hm (show i < 30 by omega) e52 e53 with ⟨A', a1, a2, a3⟩ | ⟨A', m8, m9, m10, a1, a2, a3, a4⟩
      · rw [wb_stay a2]
        exact ⟨A', a1, a3⟩
      · obtain ⟨A2, g2, e2⟩ := ih (i + 1) _ A' (.int (zI x)) (.int (zI (unW R s w x))) (.int (zI ((18 : Nat) : Int))) m8 m9 m10 (by omega) (hY.t fi.refl (a1.wd rfl)) vr.1 a2 a3 e52 e53
        refine ⟨A2, a1.tr g2, ?_⟩
        rw [a4, k_X11_findWay_106]
        simp (implicitDefEqProofs := false) (disch := omega) only [↓rI_s, ↓rV_s, ↓rI_e, ↓rV_e, zc_eq, zc_ne, zc_lt, zc_ge, zc_gt, zc_le, zlt_t, zlt_f, zle_t, zle_f, zeq_t, zeq_f, lz, zadd, zsub, zmul, zneg, zb_e0, zb_e1, boo0, boo1, ua_s, ua_n, ua_ua, up_s, u2_s, u2_f, u2_c, u2_u2, Int.natCast_add, Int.zero_add, Int.add_zero, ↓reduceIte, ne_eq, not_true_eq_false, not_false_eq_true, Int.natCast_one]
        exact e2
    · have eb : wb R F s w (f + 1) i t = t := if_neg fun q => c q.1
      refine ⟨A, fr.refl, ?_⟩
      rw [eb, hm, hv.2.2.2.2.2.2.1 hm, idI e52 e53, k_X11_findWay_68]
      simp (implicitDefEqProofs := false) (disch := omega) only [↓rI_s, ↓rV_s, ↓rI_e, ↓rV_e, zc_eq, zc_ne, zc_lt, zc_ge, zc_gt, zc_le, zlt_t, zlt_f, zle_t, zle_f, zeq_t, zeq_f, lz, zadd, zsub, zmul, zneg, zb_e0, zb_e1, boo0, boo1, ua_s, ua_n, ua_ua, up_s, u2_s, u2_f, u2_c, u2_u2, Int.natCast_add, Int.zero_add, Int.add_zero, ↓reduceIte, ne_eq, not_true_eq_false, not_false_eq_true, Int.natCast_one]
theorem m_findWay {w : Int} (hd : 7 ≤ d) (hY : mY R F s I A) (h0 : 0 ≤ w ∧ w < rW R) : ∃ A', fr vL A A' ∧ q_call q_MT d 243 [.ref 59, .int (zI w)] (zM I A W) = some (.inl none, zM (u2 (u2 I 59 52 (vWay R F s w 0)) 59 53 (vWay R F s w 1)) A' W) := by
  obtain ⟨d, rfl⟩ : ∃ e, d = e + 1 := ⟨d - 1, by omega⟩
  have hR := hY.1
  have hV := hY.2.2.1.1
  have hw := hR.1.2.1
  have hfe := hR.1.2.2.2.2.1
  have fI : fi Kq I (u2 (u2 I 59 52 (-1)) 59 53 (-1)) := (fi.refl.f rfl).f rfl
  have hY1 := hY.t fI fr.refl
  have i1 := fun kx k => m_canFlick (w := w) (I := u2 (u2 I 59 52 (-1)) 59 53 (-1)) (A := A) (W := W) (kx := kx) (k := k) (show 3 ≤ d by omega) hY1.1 (by rw [hY.2.1]; exact hV.1.b hR.1) h0.1 h0.2
  simp only [hY.2.1] at i1
  rw [cl_X11_findWay]
  by_cases c : free R s w
  · simp only [zb_t c] at i1
    have pw := hV.1 w h0.1 h0.2
    have c0 := c.1
    have e0 : vWay R F s w 0 = (wQ R F s w).2.2.2.2.1 := by unfold vWay; rw [if_pos c, if_pos rfl]
    have e1 : vWay R F s w 1 = (wQ R F s w).2.2.2.2.2 := by unfold vWay; rw [if_pos c, if_neg (by decide)]
    rw [e0, e1]
    simp (implicitDefEqProofs := false) (disch := omega) only [↓rI_s, ↓rV_s, ↓rI_e, ↓rV_e, zc_eq, zc_ne, zc_lt, zc_ge, zc_gt, zc_le, zlt_t, zlt_f, zle_t, zle_f, zeq_t, zeq_f, lz, zadd, zsub, zmul, zneg, zb_e0, zb_e1, boo0, boo1, ua_s, ua_n, ua_ua, up_s, u2_s, u2_f, u2_c, u2_u2, Int.natCast_add, Int.zero_add, Int.add_zero, ↓reduceIte, ne_eq, not_true_eq_false, not_false_eq_true, Int.natCast_one, ↓k_X11_findWay_0, ↓zp_59_52, ↓zp_59_53, ↓mc_59, ↓i1]
    have z1 : ∃ g, (∀ y : Int, 0 ≤ y → y < 30 → g y = -1) ∧ q_run qm_X11_findWay (q_call q_MT d) 21 [.ref 59, .int (zI w), .int (zI 0), q_junk, q_junk, q_junk, q_junk, q_junk, q_junk, q_junk, q_junk] [] (zM (u2 (u2 I 59 52 (-1)) 59 53 (-1)) A W) = q_run qm_X11_findWay (q_call q_MT d) 21 [.ref 59, .int (zI w), .int (zI ((30 : Nat) : Int)), q_junk, q_junk, q_junk, q_junk, q_junk, q_junk, q_junk, q_junk] [] (zM (u2 (u2 I 59 52 (-1)) 59 53 (-1)) (ua A 82 g) W) := by
      have hid : ua A 82 (A 82) = A := ua_id
      conv => enter [1, g, 2, 1]; rw [← hid]
      obtain ⟨g, hg, e⟩ := lp_g (fun j (g : Int → Int) => q_run qm_X11_findWay (q_call q_MT d) 21 [.ref 59, .int (zI w), .int (zI j), q_junk, q_junk, q_junk, q_junk, q_junk, q_junk, q_junk, q_junk] [] (zM (u2 (u2 I 59 52 (-1)) 59 53 (-1)) (ua A 82 g) W)) (fun j g => ∀ y : Int, 0 ≤ y → y < j → g y = -1) 30 (fun j g hj hg => ⟨up g j (-1), fun y y0 y1 => by
          by_cases e : y = j
          · subst e; rw [up_s]
          · rw [up_n e]; exact hg y y0 (by omega), by
          rw [k_X11_findWay_21]
          simp (implicitDefEqProofs := false) (disch := omega) only [↓rI_s, ↓rV_s, ↓rI_e, ↓rV_e, zc_eq, zc_ne, zc_lt, zc_ge, zc_gt, zc_le, zlt_t, zlt_f, zle_t, zle_f, zeq_t, zeq_f, lz, zadd, zsub, zmul, zneg, zb_e0, zb_e1, boo0, boo1, ua_s, ua_n, ua_ua, up_s, u2_s, u2_f, u2_c, u2_u2, Int.natCast_add, Int.zero_add, Int.add_zero, ↓reduceIte, ne_eq, not_true_eq_false, not_false_eq_true, Int.natCast_one, ↓zg_59_49, zs_82]⟩) 0 (A 82) (by omega) (fun y y0 y1 => by omega)
      exact ⟨g, hg, e⟩
    obtain ⟨g, hg, ez⟩ := z1
    rw [ez, k_X11_findWay_21]
    have gg : fr vL A (ua (ua A 82 (up g (s w) 0)) 84 (up (A 84) 0 (s w))) := (fr.refl.a rfl).a rfl
    have hmW : mW (s w) (w0 (s w)) (ua (ua A 82 (up g (s w) 0)) 84 (up (A 84) 0 (s w))) := by
      refine ⟨fun x x0 x1 => ?_, fun x x0 x1 hx hxh => ?_, fun i i0 i1 => ?_⟩
      · show up g (s w) 0 x = if x = s w then 0 else -1
        unfold up
        split
        · rfl
        · exact hg x x0 x1
      · have : (w0 (s w)).1 x = -1 := if_neg hxh
        exact absurd this hx
      · show up (A 84) 0 (s w) i = s w
        have i1' : i < 1 := i1
        rw [show i = 0 by omega, up_s]
    obtain ⟨A', g3, e3⟩ := m_bfs (I := u2 (u2 I 59 52 (-1)) 59 53 (-1)) (W := W) (show 6 ≤ d by omega) h0 c 30 0 (w0 (s w)) _ q_junk q_junk q_junk q_junk q_junk q_junk (by omega) (hY1.t fi.refl (gg.wd rfl)) (w0_V hR.1 c0 (by omega)) hmW rfl (by rw [u2_f (by decide), u2_s]) u2_s
    rw [u2_4 (by decide)] at e3
    refine ⟨A', gg.tr g3, ?_⟩
    simp (implicitDefEqProofs := false) (disch := omega) only [↓rI_s, ↓rV_s, ↓rI_e, ↓rV_e, zc_eq, zc_ne, zc_lt, zc_ge, zc_gt, zc_le, zlt_t, zlt_f, zle_t, zle_f, zeq_t, zeq_f, lz, zadd, zsub, zmul, zneg, zb_e0, zb_e1, boo0, boo1, ua_s, ua_n, ua_ua, up_s, u2_s, u2_f, u2_c, u2_u2, Int.natCast_add, Int.zero_add, Int.add_zero, ↓reduceIte, ne_eq, not_true_eq_false, not_false_eq_true, Int.natCast_one, ↓zg_59_43, zl_77, hY.2.1, ↓zg_59_49, zs_82, ↓zg_59_51, zs_84]
    exact e3
  · simp only [zb_f c] at i1
    have e0 : vWay R F s w 0 = -1 := if_neg c
    have e1 : vWay R F s w 1 = -1 := if_neg c
    rw [e0, e1]
    refine ⟨A, fr.refl, ?_⟩
    simp (implicitDefEqProofs := false) (disch := omega) only [↓rI_s, ↓rV_s, ↓rI_e, ↓rV_e, zc_eq, zc_ne, zc_lt, zc_ge, zc_gt, zc_le, zlt_t, zlt_f, zle_t, zle_f, zeq_t, zeq_f, lz, zadd, zsub, zmul, zneg, zb_e0, zb_e1, boo0, boo1, ua_s, ua_n, ua_ua, up_s, u2_s, u2_f, u2_c, u2_u2, Int.natCast_add, Int.zero_add, Int.add_zero, ↓reduceIte, ne_eq, not_true_eq_false, not_false_eq_true, Int.natCast_one, ↓k_X11_findWay_0, ↓zp_59_52, ↓zp_59_53, ↓mc_59, ↓i1]
theorem M_way {w k : Int} (hd : 9 ≤ d) (hX : mX R F s I A) (hh : wI w) (hk : wI k) : mOut I A W (q_call q_MT d 244 [.ref 59, .int (zI w), .int (zI k)] (zM I A W)) (if 0 ≤ w ∧ w < rW R then (if 0 ≤ k ∧ k ≤ 1 then 0 else 2) else 1) (vWay R F s w k) 2 := by
  obtain ⟨d, rfl⟩ : ∃ e, d = e + 1 := ⟨d - 1, by omega⟩
  have hY := hX.y
  have hR := hX.1
  have hs := hX.2.1
  rw [cl_X11_way]
  by_cases c1 : 0 ≤ w ∧ w < rW R
  · by_cases c2 : 0 ≤ k ∧ k ≤ 1
    · rw [if_pos c1, if_pos c2]
      obtain ⟨A', f, e⟩ := m_findWay (W := W) (show 7 ≤ d by omega) hY c1
      refine mOut.ok (I1 := u2 (u2 (u2 I 59 0 0) 59 52 (vWay R F s w 0)) 59 53 (vWay R F s w 1)) (((fi.refl.f rfl).f rfl).f rfl) ((fr.refl.a rfl).tr (f.wd rfl)) (by rw [u2_f (by decide), u2_f (by decide), u2_s]) ?_
      have : k = 0 ∨ k = 1 := by omega
      rcases this with rfl | rfl
      · simp (implicitDefEqProofs := false) (disch := omega) only [↓rI_s, ↓rV_s, ↓rI_e, ↓rV_e, zc_eq, zc_ne, zc_lt, zc_ge, zc_gt, zc_le, zlt_t, zlt_f, zle_t, zle_f, zeq_t, zeq_f, lz, zadd, zsub, zmul, zneg, zb_e0, zb_e1, boo0, boo1, ua_s, ua_n, ua_ua, up_s, u2_s, u2_f, u2_c, u2_u2, Int.natCast_add, Int.zero_add, Int.add_zero, ↓reduceIte, ne_eq, not_true_eq_false, not_false_eq_true, Int.natCast_one, ↓k_X11_way_0, ↓k_X11_way_29, ↓k_X11_way_55, zp_59_0, ↓mc_59, ↓zg_59_52, ↓zg_59_53, ↓mc_59, ↓zp_59_0, s_within, s_within_f, s_isPress, s_isPress_f, s_isWink (show 2 ≤ d by omega) hR, s_isWink_f (show 2 ≤ d by omega) hR, s_isHouse (show 2 ≤ d by omega) hR, s_isHouse_f (show 2 ≤ d by omega) hR, s_may1, s_may0, m_take (show 2 ≤ d by omega), hs, e]
      · simp (implicitDefEqProofs := false) (disch := omega) only [↓rI_s, ↓rV_s, ↓rI_e, ↓rV_e, zc_eq, zc_ne, zc_lt, zc_ge, zc_gt, zc_le, zlt_t, zlt_f, zle_t, zle_f, zeq_t, zeq_f, lz, zadd, zsub, zmul, zneg, zb_e0, zb_e1, boo0, boo1, ua_s, ua_n, ua_ua, up_s, u2_s, u2_f, u2_c, u2_u2, Int.natCast_add, Int.zero_add, Int.add_zero, ↓reduceIte, ne_eq, not_true_eq_false, not_false_eq_true, Int.natCast_one, ↓k_X11_way_0, ↓k_X11_way_29, ↓k_X11_way_55, zp_59_0, ↓mc_59, ↓zg_59_52, ↓zg_59_53, ↓mc_59, ↓zp_59_0, s_within, s_within_f, s_isPress, s_isPress_f, s_isWink (show 2 ≤ d by omega) hR, s_isWink_f (show 2 ≤ d by omega) hR, s_isHouse (show 2 ≤ d by omega) hR, s_isHouse_f (show 2 ≤ d by omega) hR, s_may1, s_may0, m_take (show 2 ≤ d by omega), hs, e]
    · rw [if_pos c1, if_neg c2]
      exact mOut.il fr.refl (by simp (implicitDefEqProofs := false) (disch := omega) only [↓rI_s, ↓rV_s, ↓rI_e, ↓rV_e, zc_eq, zc_ne, zc_lt, zc_ge, zc_gt, zc_le, zlt_t, zlt_f, zle_t, zle_f, zeq_t, zeq_f, lz, zadd, zsub, zmul, zneg, zb_e0, zb_e1, boo0, boo1, ua_s, ua_n, ua_ua, up_s, u2_s, u2_f, u2_c, u2_u2, Int.natCast_add, Int.zero_add, Int.add_zero, ↓reduceIte, ne_eq, not_true_eq_false, not_false_eq_true, Int.natCast_one, ↓k_X11_way_0, ↓k_X11_way_29, ↓k_X11_way_55, zp_59_0, ↓mc_59, ↓zg_59_52, ↓zg_59_53, ↓mc_59, ↓zp_59_0, s_within, s_within_f, s_isPress, s_isPress_f, s_isWink (show 2 ≤ d by omega) hR, s_isWink_f (show 2 ≤ d by omega) hR, s_isHouse (show 2 ≤ d by omega) hR, s_isHouse_f (show 2 ≤ d by omega) hR, s_may1, s_may0, m_take (show 2 ≤ d by omega)])
  · rw [if_neg c1]
    exact mOut.ns (by simp (implicitDefEqProofs := false) (disch := omega) only [↓rI_s, ↓rV_s, ↓rI_e, ↓rV_e, zc_eq, zc_ne, zc_lt, zc_ge, zc_gt, zc_le, zlt_t, zlt_f, zle_t, zle_f, zeq_t, zeq_f, lz, zadd, zsub, zmul, zneg, zb_e0, zb_e1, boo0, boo1, ua_s, ua_n, ua_ua, up_s, u2_s, u2_f, u2_c, u2_u2, Int.natCast_add, Int.zero_add, Int.add_zero, ↓reduceIte, ne_eq, not_true_eq_false, not_false_eq_true, Int.natCast_one, ↓k_X11_way_0, ↓k_X11_way_29, ↓k_X11_way_55, zp_59_0, ↓mc_59, ↓zg_59_52, ↓zg_59_53, ↓mc_59, ↓zp_59_0, s_within, s_within_f, s_isPress, s_isPress_f, s_isWink (show 2 ≤ d by omega) hR, s_isWink_f (show 2 ≤ d by omega) hR, s_isHouse (show 2 ≤ d by omega) hR, s_isHouse_f (show 2 ≤ d by omega) hR, s_may1, s_may0, m_take (show 2 ≤ d by omega)])
end MW
