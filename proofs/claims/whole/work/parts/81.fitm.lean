--DEPS 80.fits
/-- what the reference's book tells -/
def mT (tl : Int → Int) (I : Nat → Nat → Int) (A : Nat → Int → Int) : Prop := (0 ≤ I 59 48 ∧ I 59 48 ≤ 100) ∧ ∀ p : Int, 1 ≤ p → p ≤ 9 → if 0 < I 59 48 then A 81 (p - 1) = tl p else tl p = -1
section BM
variable {d : Nat} {I : Nat → Nat → Int} {A : Nat → Int → Int} {W : qWt} {R : zR} {F : zF} {s tl : Int → Int}
theorem m_fliesWith {w p pr : Int} (hd : 5 ≤ d) (hY : mY R F s I A) (h0 : 0 ≤ w) (h1 : w < rW R) (hp : 0 ≤ pr ∧ pr < 100) : ∃ A', fr [72, 73] A A' ∧ q_call q_MT d 255 [.ref 59, .int (zI w), .int (zI p), .int (zI pr)] (zM I A W) = some (.inl (some (.int (zI (flW R F s w p pr)))), zM I A' W) := by
  obtain ⟨d, rfl⟩ : ∃ e, d = e + 1 := ⟨d - 1, by omega⟩
  obtain ⟨hR, rfl, ⟨hV, -⟩, hL⟩ := hY
  have hw := hR.1.2.1
  have hh := hR.1.1
  have ho := hR.1.o h0 h1
  have e1 := hR.2.2.2.2.2.2.1 w h0 h1
  have e2 := hR.2.2.2.2.2.2.2.1 w h0 h1
  have bw := hV.1.b hR.1 w h0 h1
  rw [cl_X11_fliesWith]
  by_cases q : A 77 w < 0
  · refine ⟨A, fr.refl, ?_⟩
    have ew : flW R F (A 77) w p pr = 0 := if_pos q
    rw [ew]
    simp (implicitDefEqProofs := false) (disch := omega) only [↓rI_s, ↓rV_s, ↓rI_e, ↓rV_e, zc_eq, zc_ne, zc_lt, zc_ge, zc_gt, zc_le, zlt_t, zlt_f, zle_t, zle_f, zeq_t, zeq_f, lz, zadd, zsub, zmul, zneg, zb_e0, zb_e1, boo0, boo1, ua_s, ua_n, ua_ua, up_s, u2_s, u2_f, u2_c, u2_u2, Int.natCast_add, Int.zero_add, Int.add_zero, ↓reduceIte, ne_eq, not_true_eq_false, not_false_eq_true, Int.natCast_one, ↓k_X11_fliesWith_0, ↓k_X11_fliesWith_87, ↓zg_59_43, zl_77, zs_77, ↓zn_77, ↓zg_59_14, zl_66, zs_66, ↓zn_66, ↓mc_59]
  · obtain ⟨A', f, e⟩ := m_fliesOf (p := p) (sz := rS R w) (np := pr / 10) (dm := pr - pr / 10 * 10) (un := A 77 (10 + w)) (sh := A 77 (20 + w)) (x := A 77 w) (dy := A 77 45) (co := A 77 (40 + rO R w)) (W := W) (show 4 ≤ d by omega) hL
    refine ⟨A', f, ?_⟩
    have ew : flW R F (A 77) w p pr = F (seeF p (rS R w) (pr / 10) (pr - pr / 10 * 10) (A 77 (10 + w)) (A 77 (20 + w)) (A 77 w) (A 77 45) (A 77 (40 + rO R w))) := if_neg q
    rw [ew]
    simp (implicitDefEqProofs := false) (disch := omega) only [↓rI_s, ↓rV_s, ↓rI_e, ↓rV_e, zc_eq, zc_ne, zc_lt, zc_ge, zc_gt, zc_le, zlt_t, zlt_f, zle_t, zle_f, zeq_t, zeq_f, lz, zadd, zsub, zmul, zneg, zb_e0, zb_e1, boo0, boo1, ua_s, ua_n, ua_ua, up_s, u2_s, u2_f, u2_c, u2_u2, Int.natCast_add, Int.zero_add, Int.add_zero, ↓reduceIte, ne_eq, not_true_eq_false, not_false_eq_true, Int.natCast_one, ↓k_X11_fliesWith_0, ↓k_X11_fliesWith_87, ↓zg_59_43, zl_77, zs_77, ↓zn_77, ↓zg_59_14, zl_66, zs_66, ↓zn_66, ↓mc_59, e1, e2, zdiv, e]
theorem m_isTold {p : Int} (hd : 1 ≤ d) (hT : mT tl I A) (hb : tB9 tl) (hp : 1 ≤ p ∧ p ≤ 9) : q_call q_MT d 224 [.ref 59, .int (zI p)] (zM I A W) = some (.inl (some (.int (zI (zb (tl p ≠ -1))))), zM I A W) := by
  obtain ⟨d, rfl⟩ : ∃ e, d = e + 1 := ⟨d - 1, by omega⟩
  have tb := hb p hp.1 hp.2
  have ht := hT.2 p hp.1 hp.2
  have h48 := hT.1
  rw [cl_X11_isTold]
  by_cases q : 0 < I 59 48
  · rw [if_pos q] at ht
    by_cases q2 : tl p = -1
    · rw [zb_f (fun q3 => q3 q2)]
      simp (implicitDefEqProofs := false) (disch := omega) only [↓rI_s, ↓rV_s, ↓rI_e, ↓rV_e, zc_eq, zc_ne, zc_lt, zc_ge, zc_gt, zc_le, zlt_t, zlt_f, zle_t, zle_f, zeq_t, zeq_f, lz, zadd, zsub, zmul, zneg, zb_e0, zb_e1, boo0, boo1, ua_s, ua_n, ua_ua, up_s, u2_s, u2_f, u2_c, u2_u2, Int.natCast_add, Int.zero_add, Int.add_zero, ↓reduceIte, ne_eq, not_true_eq_false, not_false_eq_true, Int.natCast_one, ↓k_X11_isTold_0, ↓k_X11_isTold_23, ↓k_X11_isTold_24, ↓zg_59_48, ↓zg_59_47, zl_81, zs_81, ↓zn_81, ht]
    · rw [zb_t q2]
      simp (implicitDefEqProofs := false) (disch := omega) only [↓rI_s, ↓rV_s, ↓rI_e, ↓rV_e, zc_eq, zc_ne, zc_lt, zc_ge, zc_gt, zc_le, zlt_t, zlt_f, zle_t, zle_f, zeq_t, zeq_f, lz, zadd, zsub, zmul, zneg, zb_e0, zb_e1, boo0, boo1, ua_s, ua_n, ua_ua, up_s, u2_s, u2_f, u2_c, u2_u2, Int.natCast_add, Int.zero_add, Int.add_zero, ↓reduceIte, ne_eq, not_true_eq_false, not_false_eq_true, Int.natCast_one, ↓k_X11_isTold_0, ↓k_X11_isTold_23, ↓k_X11_isTold_24, ↓zg_59_48, ↓zg_59_47, zl_81, zs_81, ↓zn_81, ht]
  · rw [if_neg q] at ht
    rw [zb_f (fun q3 => q3 ht)]
    simp (implicitDefEqProofs := false) (disch := omega) only [↓rI_s, ↓rV_s, ↓rI_e, ↓rV_e, zc_eq, zc_ne, zc_lt, zc_ge, zc_gt, zc_le, zlt_t, zlt_f, zle_t, zle_f, zeq_t, zeq_f, lz, zadd, zsub, zmul, zneg, zb_e0, zb_e1, boo0, boo1, ua_s, ua_n, ua_ua, up_s, u2_s, u2_f, u2_c, u2_u2, Int.natCast_add, Int.zero_add, Int.add_zero, ↓reduceIte, ne_eq, not_true_eq_false, not_false_eq_true, Int.natCast_one, ↓k_X11_isTold_0, ↓k_X11_isTold_23, ↓k_X11_isTold_24, ↓zg_59_48, ↓zg_59_47, zl_81, zs_81, ↓zn_81]
theorem mT.t {I I' : Nat → Nat → Int} {A A' : Nat → Int → Int} (h : mT tl I A) (f : fi Kq I I') (g : fr Lq A A') : mT tl I' A' := by
  unfold mT
  rw [f 59 48 rfl, g 81 rfl]; exact h
theorem m_isRight {w : Int} {pr : Nat} (hd : 6 ≤ d) (hY : mY R F s I A) (hT : mT tl I A) (hb : tB9 tl) (h0 : 0 ≤ w) (h1 : w < rW R) (hp : pr < 100) : ∃ A', fr [72, 73] A A' ∧ q_call q_MT d 256 [.ref 59, .int (zI w), .int (zI pr)] (zM I A W) = some (.inl (some (.int (zI (if rgt R F s tl w pr = true then 1 else 0)))), zM I A' W) := by
  obtain ⟨d, rfl⟩ : ∃ e, d = e + 1 := ⟨d - 1, by omega⟩
  rw [cl_X11_isRight]
  simp (implicitDefEqProofs := false) (disch := omega) only [↓rI_s, ↓rV_s, ↓rI_e, ↓rV_e, zc_eq, zc_ne, zc_lt, zc_ge, zc_gt, zc_le, zlt_t, zlt_f, zle_t, zle_f, zeq_t, zeq_f, lz, zadd, zsub, zmul, zneg, zb_e0, zb_e1, boo0, boo1, ua_s, ua_n, ua_ua, up_s, u2_s, u2_f, u2_c, u2_u2, Int.natCast_add, Int.zero_add, Int.add_zero, ↓reduceIte, ne_eq, not_true_eq_false, not_false_eq_true, Int.natCast_one, ↓k_X11_isRight_0]
  refine lp_x (fun j (B : Nat → Int → Int) => q_run qm_X11_isRight (q_call q_MT d) 2 [.ref 59, .int (zI w), .int (zI pr), .int (zI (j + 1))] [] (zM I B W)) (fun j B => fr [72, 73] A B ∧ ∀ i : Nat, i < j → tl ((i : Int) + 1) = -1 ∨ tl ((i : Int) + 1) = flW R F s w ((i : Int) + 1) pr) (fun r => ∃ A', fr [72, 73] A A' ∧ r = some (.inl (some (.int (zI (if rgt R F s tl w pr = true then 1 else 0)))), zM I A' W)) 9 ?_ ?_ 0 A (by omega) ⟨fr.refl, fun i hi => by omega⟩
  · rintro B ⟨f, h⟩
    refine ⟨B, f, ?_⟩
    rw [k_X11_isRight_2, if_pos (show rgt R F s tl w pr = true from decide_eq_true h)]
    simp (implicitDefEqProofs := false) (disch := omega) only [↓rI_s, ↓rV_s, ↓rI_e, ↓rV_e, zc_eq, zc_ne, zc_lt, zc_ge, zc_gt, zc_le, zlt_t, zlt_f, zle_t, zle_f, zeq_t, zeq_f, lz, zadd, zsub, zmul, zneg, zb_e0, zb_e1, boo0, boo1, ua_s, ua_n, ua_ua, up_s, u2_s, u2_f, u2_c, u2_u2, Int.natCast_add, Int.zero_add, Int.add_zero, ↓reduceIte, ne_eq, not_true_eq_false, not_false_eq_true, Int.natCast_one]
  · rintro j B hj ⟨f, h⟩
    have hTB : mT tl I B := hT.t fi.refl (f.wd rfl)
    have tb := hb ((j : Int) + 1) (by omega) (by omega)
    have et := m_isTold (p := (j : Int) + 1) (W := W) (show 1 ≤ d by omega) hTB hb (by omega)
    rw [k_X11_isRight_2]
    by_cases q1 : tl ((j : Int) + 1) = -1
    · rw [zb_f (fun q => q q1)] at et
      refine .inr ⟨B, ⟨f, fun i hi => ?_⟩, ?_⟩
      · by_cases e : i = j
        · subst e; exact .inl q1
        · exact h i (by omega)
      · simp (implicitDefEqProofs := false) (disch := omega) only [↓rI_s, ↓rV_s, ↓rI_e, ↓rV_e, zc_eq, zc_ne, zc_lt, zc_ge, zc_gt, zc_le, zlt_t, zlt_f, zle_t, zle_f, zeq_t, zeq_f, lz, zadd, zsub, zmul, zneg, zb_e0, zb_e1, boo0, boo1, ua_s, ua_n, ua_ua, up_s, u2_s, u2_f, u2_c, u2_u2, Int.natCast_add, Int.zero_add, Int.add_zero, ↓reduceIte, ne_eq, not_true_eq_false, not_false_eq_true, Int.natCast_one, ↓mc_59, et, ↓k_X11_isRight_36]
    · rw [zb_t q1] at et
      obtain ⟨B', f', e⟩ := m_fliesWith (p := (j : Int) + 1) (pr := pr) (W := W) (show 5 ≤ d by omega) (hY.t fi.refl (f.wd rfl)) h0 h1 (by omega)
      have fb := flW_b (R := R) hY.2.2.2.w s w ((j : Int) + 1) pr
      have h81 : B' 81 ((j : Int) + 1 - 1) = tl ((j : Int) + 1) := by
        have := hTB.2 ((j : Int) + 1) (by omega) (by omega)
        rw [f' 81 rfl]
        split at this
        · exact this
        · exact absurd this q1
      by_cases q2 : tl ((j : Int) + 1) = flW R F s w ((j : Int) + 1) pr
      · refine .inr ⟨B', ⟨f.tr f', fun i hi => ?_⟩, ?_⟩
        · by_cases e : i = j
          · subst e; exact .inr q2
          · exact h i (by omega)
        · simp (implicitDefEqProofs := false) (disch := omega) only [↓rI_s, ↓rV_s, ↓rI_e, ↓rV_e, zc_eq, zc_ne, zc_lt, zc_ge, zc_gt, zc_le, zlt_t, zlt_f, zle_t, zle_f, zeq_t, zeq_f, lz, zadd, zsub, zmul, zneg, zb_e0, zb_e1, boo0, boo1, ua_s, ua_n, ua_ua, up_s, u2_s, u2_f, u2_c, u2_u2, Int.natCast_add, Int.zero_add, Int.add_zero, ↓reduceIte, ne_eq, not_true_eq_false, not_false_eq_true, Int.natCast_one, ↓mc_59, et, e, ↓zg_59_47, zl_81, h81, ↓k_X11_isRight_36]
      · refine .inl ⟨B', f.tr f', ?_⟩
        rw [if_neg (show ¬ rgt R F s tl w pr = true from fun q => by
          rcases of_decide_eq_true q j hj with q | q
          · exact q1 q
          · exact q2 q)]
        simp (implicitDefEqProofs := false) (disch := omega) only [↓rI_s, ↓rV_s, ↓rI_e, ↓rV_e, zc_eq, zc_ne, zc_lt, zc_ge, zc_gt, zc_le, zlt_t, zlt_f, zle_t, zle_f, zeq_t, zeq_f, lz, zadd, zsub, zmul, zneg, zb_e0, zb_e1, boo0, boo1, ua_s, ua_n, ua_ua, up_s, u2_s, u2_f, u2_c, u2_u2, Int.natCast_add, Int.zero_add, Int.add_zero, ↓reduceIte, ne_eq, not_true_eq_false, not_false_eq_true, Int.natCast_one, ↓mc_59, et, e, ↓zg_59_47, zl_81, h81]
theorem M_fits {w k : Int} (hd : 8 ≤ d) (hX : mX R F s I A) (hT : mT tl I A) (hb : tB9 tl) (hh : wI w) (hk : wI k) : mOut I A W (q_call q_MT d 257 [.ref 59, .int (zI w), .int (zI k)] (zM I A W)) (if 0 ≤ w ∧ w < rW R then (if 0 ≤ k ∧ k ≤ 1 then 0 else 2) else 1) (vFits R F s tl w k) 2 := by
  obtain ⟨d, rfl⟩ : ∃ e, d = e + 1 := ⟨d - 1, by omega⟩
  have hY := hX.y
  have hR := hX.1
  have hs := hX.2.1
  rw [cl_X11_fits]
  by_cases c1 : 0 ≤ w ∧ w < rW R
  · by_cases c2 : 0 ≤ k ∧ k ≤ 1
    · rw [if_pos c1, if_pos c2]
      simp (implicitDefEqProofs := false) (disch := omega) only [↓rI_s, ↓rV_s, ↓rI_e, ↓rV_e, zc_eq, zc_ne, zc_lt, zc_ge, zc_gt, zc_le, zlt_t, zlt_f, zle_t, zle_f, zeq_t, zeq_f, lz, zadd, zsub, zmul, zneg, zb_e0, zb_e1, boo0, boo1, ua_s, ua_n, ua_ua, up_s, u2_s, u2_f, u2_c, u2_u2, Int.natCast_add, Int.zero_add, Int.add_zero, ↓reduceIte, ne_eq, not_true_eq_false, not_false_eq_true, Int.natCast_one, ↓k_X11_fits_0, ↓mc_59, ↓zp_59_0, s_within, s_within_f, s_isPress, s_isPress_f, s_isWink (show 2 ≤ d by omega) hR, s_isWink_f (show 2 ≤ d by omega) hR, s_isHouse (show 2 ≤ d by omega) hR, s_isHouse_f (show 2 ≤ d by omega) hR, s_may1, s_may0, m_take (show 2 ≤ d by omega), hs]
      refine lp_x (fun j (B : Nat → Int → Int) => q_run qm_X11_fits (q_call q_MT d) 43 [.ref 59, .int (zI w), .int (zI k), .int (zI (cnt j (rgt R F s tl w))), .int (zI (fst j (rgt R F s tl w))), .int (zI j)] [] (zM (u2 I 59 0 0) B W)) (fun j B => fr [72, 73] (ua A 77 s) B) (fun r => mOut I A W r 0 (vFits R F s tl w k) 2) 100 ?_ ?_ 0 (ua A 77 s) (by omega) fr.refl
      · intro B f
        refine mOut.ok (I1 := u2 I 59 0 0) (A1 := B) (fi.refl.f rfl) ((fr.refl.a rfl).tr (f.wd rfl)) u2_s ?_
        rw [k_X11_fits_43]
        have : k = 0 ∨ k = 1 := by omega
        rcases this with rfl | rfl
        · have ev : vFits R F s tl w 0 = cnt 100 (rgt R F s tl w) := if_pos rfl
          rw [ev]
          simp (implicitDefEqProofs := false) (disch := omega) only [↓rI_s, ↓rV_s, ↓rI_e, ↓rV_e, zc_eq, zc_ne, zc_lt, zc_ge, zc_gt, zc_le, zlt_t, zlt_f, zle_t, zle_f, zeq_t, zeq_f, lz, zadd, zsub, zmul, zneg, zb_e0, zb_e1, boo0, boo1, ua_s, ua_n, ua_ua, up_s, u2_s, u2_f, u2_c, u2_u2, Int.natCast_add, Int.zero_add, Int.add_zero, ↓reduceIte, ne_eq, not_true_eq_false, not_false_eq_true, Int.natCast_one, ↓k_X11_fits_97]
        · have ev : vFits R F s tl w 1 = fst 100 (rgt R F s tl w) := if_neg (by decide)
          rw [ev]
          simp (implicitDefEqProofs := false) (disch := omega) only [↓rI_s, ↓rV_s, ↓rI_e, ↓rV_e, zc_eq, zc_ne, zc_lt, zc_ge, zc_gt, zc_le, zlt_t, zlt_f, zle_t, zle_f, zeq_t, zeq_f, lz, zadd, zsub, zmul, zneg, zb_e0, zb_e1, boo0, boo1, ua_s, ua_n, ua_ua, up_s, u2_s, u2_f, u2_c, u2_u2, Int.natCast_add, Int.zero_add, Int.add_zero, ↓reduceIte, ne_eq, not_true_eq_false, not_false_eq_true, Int.natCast_one, ↓k_X11_fits_97]
      · intro j B hj f
        obtain ⟨B', f', e⟩ := m_isRight (pr := j) (tl := tl) (W := W) (show 6 ≤ d by omega) (hY.t fi.refl (f.wd rfl)) (hT.t (fi.refl.f rfl) ((fr.refl.a rfl).tr (f.wd rfl))) hb c1.1 c1.2 hj
        have fl := fst_lo j (rgt R F s tl w)
        have fh := fst_hi j (rgt R F s tl w)
        refine .inr ⟨B', f.tr f', ?_⟩
        rw [k_X11_fits_43]
        have ef : fst (j + 1) (rgt R F s tl w) = if fst j (rgt R F s tl w) = -1 then (if rgt R F s tl w j = true then (j : Int) else -1) else fst j (rgt R F s tl w) := rfl
        by_cases q : rgt R F s tl w j = true
        · rw [if_pos q] at e
          rw [cnt_t q, ef]
          by_cases q2 : fst j (rgt R F s tl w) = -1
          · rw [if_pos q2, if_pos q, q2]
            simp (implicitDefEqProofs := false) (disch := omega) only [↓rI_s, ↓rV_s, ↓rI_e, ↓rV_e, zc_eq, zc_ne, zc_lt, zc_ge, zc_gt, zc_le, zlt_t, zlt_f, zle_t, zle_f, zeq_t, zeq_f, lz, zadd, zsub, zmul, zneg, zb_e0, zb_e1, boo0, boo1, ua_s, ua_n, ua_ua, up_s, u2_s, u2_f, u2_c, u2_u2, Int.natCast_add, Int.zero_add, Int.add_zero, ↓reduceIte, ne_eq, not_true_eq_false, not_false_eq_true, Int.natCast_one, ↓mc_59, e, ↓k_X11_fits_79, ↓k_X11_fits_81]
          · rw [if_neg q2]
            simp (implicitDefEqProofs := false) (disch := omega) only [↓rI_s, ↓rV_s, ↓rI_e, ↓rV_e, zc_eq, zc_ne, zc_lt, zc_ge, zc_gt, zc_le, zlt_t, zlt_f, zle_t, zle_f, zeq_t, zeq_f, lz, zadd, zsub, zmul, zneg, zb_e0, zb_e1, boo0, boo1, ua_s, ua_n, ua_ua, up_s, u2_s, u2_f, u2_c, u2_u2, Int.natCast_add, Int.zero_add, Int.add_zero, ↓reduceIte, ne_eq, not_true_eq_false, not_false_eq_true, Int.natCast_one, ↓mc_59, e, ↓k_X11_fits_79, ↓k_X11_fits_81]
        · rw [if_neg q] at e
          have ef2 : fst (j + 1) (rgt R F s tl w) = fst j (rgt R F s tl w) := by
            rw [ef]
            split
            · rename_i q2; exact q2.symm
            · rfl
          rw [cnt_f q, ef2]
          simp (implicitDefEqProofs := false) (disch := omega) only [↓rI_s, ↓rV_s, ↓rI_e, ↓rV_e, zc_eq, zc_ne, zc_lt, zc_ge, zc_gt, zc_le, zlt_t, zlt_f, zle_t, zle_f, zeq_t, zeq_f, lz, zadd, zsub, zmul, zneg, zb_e0, zb_e1, boo0, boo1, ua_s, ua_n, ua_ua, up_s, u2_s, u2_f, u2_c, u2_u2, Int.natCast_add, Int.zero_add, Int.add_zero, ↓reduceIte, ne_eq, not_true_eq_false, not_false_eq_true, Int.natCast_one, ↓mc_59, e, ↓k_X11_fits_81]
    · rw [if_pos c1, if_neg c2]
      exact mOut.il fr.refl (by simp (implicitDefEqProofs := false) (disch := omega) only [↓rI_s, ↓rV_s, ↓rI_e, ↓rV_e, zc_eq, zc_ne, zc_lt, zc_ge, zc_gt, zc_le, zlt_t, zlt_f, zle_t, zle_f, zeq_t, zeq_f, lz, zadd, zsub, zmul, zneg, zb_e0, zb_e1, boo0, boo1, ua_s, ua_n, ua_ua, up_s, u2_s, u2_f, u2_c, u2_u2, Int.natCast_add, Int.zero_add, Int.add_zero, ↓reduceIte, ne_eq, not_true_eq_false, not_false_eq_true, Int.natCast_one, ↓k_X11_fits_0, ↓k_X11_fits_29, ↓k_X11_fits_79, ↓k_X11_fits_81, ↓k_X11_fits_97, zp_59_0, ↓mc_59, ↓mc_59, ↓zp_59_0, s_within, s_within_f, s_isPress, s_isPress_f, s_isWink (show 2 ≤ d by omega) hR, s_isWink_f (show 2 ≤ d by omega) hR, s_isHouse (show 2 ≤ d by omega) hR, s_isHouse_f (show 2 ≤ d by omega) hR, s_may1, s_may0, m_take (show 2 ≤ d by omega)])
  · rw [if_neg c1]
    exact mOut.ns (by simp (implicitDefEqProofs := false) (disch := omega) only [↓rI_s, ↓rV_s, ↓rI_e, ↓rV_e, zc_eq, zc_ne, zc_lt, zc_ge, zc_gt, zc_le, zlt_t, zlt_f, zle_t, zle_f, zeq_t, zeq_f, lz, zadd, zsub, zmul, zneg, zb_e0, zb_e1, boo0, boo1, ua_s, ua_n, ua_ua, up_s, u2_s, u2_f, u2_c, u2_u2, Int.natCast_add, Int.zero_add, Int.add_zero, ↓reduceIte, ne_eq, not_true_eq_false, not_false_eq_true, Int.natCast_one, ↓k_X11_fits_0, ↓k_X11_fits_29, ↓k_X11_fits_79, ↓k_X11_fits_81, ↓k_X11_fits_97, zp_59_0, ↓mc_59, ↓mc_59, ↓zp_59_0, s_within, s_within_f, s_isPress, s_isPress_f, s_isWink (show 2 ≤ d by omega) hR, s_isWink_f (show 2 ≤ d by omega) hR, s_isHouse (show 2 ≤ d by omega) hR, s_isHouse_f (show 2 ≤ d by omega) hR, s_may1, s_may0, m_take (show 2 ≤ d by omega)])
theorem m_worstAt {w p : Int} (hd : 7 ≤ d) (hY : mY R F s I A) (hT : mT tl I A) (hb : tB9 tl) (h0 : 0 ≤ w) (h1 : w < rW R) : ∃ A', fr [72, 73, 87] A A' ∧ q_call q_MT d 258 [.ref 59, .int (zI w), .int (zI p)] (zM I A W) = some (.inl (some (.int (zI (wst R F s tl w p 100)))), zM I A' W) := by
  obtain ⟨d, rfl⟩ : ∃ e, d = e + 1 := ⟨d - 1, by omega⟩
  rw [cl_X11_worstAt]
  simp (implicitDefEqProofs := false) (disch := omega) only [↓rI_s, ↓rV_s, ↓rI_e, ↓rV_e, zc_eq, zc_ne, zc_lt, zc_ge, zc_gt, zc_le, zlt_t, zlt_f, zle_t, zle_f, zeq_t, zeq_f, lz, zadd, zsub, zmul, zneg, zb_e0, zb_e1, boo0, boo1, ua_s, ua_n, ua_ua, up_s, u2_s, u2_f, u2_c, u2_u2, Int.natCast_add, Int.zero_add, Int.add_zero, ↓reduceIte, ne_eq, not_true_eq_false, not_false_eq_true, Int.natCast_one, ↓k_X11_worstAt_0]
  have z1 : ∃ g, (∀ x : Int, 0 ≤ x → x ≤ 60 → g x = 0) ∧ q_run qm_X11_worstAt (q_call q_MT d) 2 [.ref 59, .int (zI w), .int (zI p), .int (zI 0), q_junk, q_junk] [] (zM I A W) = q_run qm_X11_worstAt (q_call q_MT d) 26 [.ref 59, .int (zI w), .int (zI p), .int (zI 0), .int (zI 0), q_junk] [] (zM I (ua A 87 g) W) := by
    have hid : ua A 87 (A 87) = A := ua_id
    conv => enter [1, g, 2, 1]; rw [← hid]
    refine lp_x (fun j (g : Int → Int) => q_run qm_X11_worstAt (q_call q_MT d) 2 [.ref 59, .int (zI w), .int (zI p), .int (zI j), q_junk, q_junk] [] (zM I (ua A 87 g) W)) (fun j g => ∀ y : Int, 0 ≤ y → y < j → g y = 0) (fun r => ∃ g, (∀ x : Int, 0 ≤ x → x ≤ 60 → g x = 0) ∧ r = q_run qm_X11_worstAt (q_call q_MT d) 26 [.ref 59, .int (zI w), .int (zI p), .int (zI 0), .int (zI 0), q_junk] [] (zM I (ua A 87 g) W)) 61 ?_ ?_ 0 (A 87) (by omega) (fun y y0 y1 => by omega)
    · intro g hg
      refine ⟨g, fun x x0 x1 => hg x x0 (by omega), ?_⟩
      rw [k_X11_worstAt_2]
      simp (implicitDefEqProofs := false) (disch := omega) only [↓rI_s, ↓rV_s, ↓rI_e, ↓rV_e, zc_eq, zc_ne, zc_lt, zc_ge, zc_gt, zc_le, zlt_t, zlt_f, zle_t, zle_f, zeq_t, zeq_f, lz, zadd, zsub, zmul, zneg, zb_e0, zb_e1, boo0, boo1, ua_s, ua_n, ua_ua, up_s, u2_s, u2_f, u2_c, u2_u2, Int.natCast_add, Int.zero_add, Int.add_zero, ↓reduceIte, ne_eq, not_true_eq_false, not_false_eq_true, Int.natCast_one]
    · intro j g hj hg
      refine .inr ⟨up g j 0, fun y y0 y1 => ?_, ?_⟩
      · by_cases e : y = j
        · subst e; rw [up_s]
        · rw [up_n e]; exact hg y y0 (by omega)
      · rw [k_X11_worstAt_2]
        simp (implicitDefEqProofs := false) (disch := omega) only [↓rI_s, ↓rV_s, ↓rI_e, ↓rV_e, zc_eq, zc_ne, zc_lt, zc_ge, zc_gt, zc_le, zlt_t, zlt_f, zle_t, zle_f, zeq_t, zeq_f, lz, zadd, zsub, zmul, zneg, zb_e0, zb_e1, boo0, boo1, ua_s, ua_n, ua_ua, up_s, u2_s, u2_f, u2_c, u2_u2, Int.natCast_add, Int.zero_add, Int.add_zero, ↓reduceIte, ne_eq, not_true_eq_false, not_false_eq_true, Int.natCast_one, ↓zg_59_57, zs_87]
  obtain ⟨g0, hg0, e0⟩ := z1
  rw [e0]
  refine lp_x (fun j (B : (Nat → Int → Int) × Value) => q_run qm_X11_worstAt (q_call q_MT d) 26 [.ref 59, .int (zI w), .int (zI p), .int (zI (wst R F s tl w p j)), .int (zI j), B.2] [] (zM I B.1 W)) (fun j B => fr [72, 73, 87] A B.1 ∧ ∀ x : Int, 0 ≤ x → x ≤ 60 → B.1 87 x = tly R F s tl w p j x) (fun r => ∃ A', fr [72, 73, 87] A A' ∧ r = some (.inl (some (.int (zI (wst R F s tl w p 100)))), zM I A' W)) 100 ?_ ?_ 0 (ua A 87 g0, q_junk) (by omega) ⟨fr.refl.a rfl, fun x x0 x1 => by show g0 x = _; rw [hg0 x x0 x1]; rfl⟩
  · rintro ⟨B, l5⟩ ⟨f, h⟩
    refine ⟨B, f, ?_⟩
    dsimp only
    rw [k_X11_worstAt_26]
    simp (implicitDefEqProofs := false) (disch := omega) only [↓rI_s, ↓rV_s, ↓rI_e, ↓rV_e, zc_eq, zc_ne, zc_lt, zc_ge, zc_gt, zc_le, zlt_t, zlt_f, zle_t, zle_f, zeq_t, zeq_f, lz, zadd, zsub, zmul, zneg, zb_e0, zb_e1, boo0, boo1, ua_s, ua_n, ua_ua, up_s, u2_s, u2_f, u2_c, u2_u2, Int.natCast_add, Int.zero_add, Int.add_zero, ↓reduceIte, ne_eq, not_true_eq_false, not_false_eq_true, Int.natCast_one]
  · rintro j ⟨B, l5⟩ hj ⟨f, h⟩
    dsimp only at f h ⊢
    obtain ⟨B1, f1, e1⟩ := m_isRight (pr := j) (tl := tl) (W := W) (show 6 ≤ d by omega) (hY.t fi.refl (f.wd rfl)) (hT.t fi.refl (f.wd rfl)) hb h0 h1 hj
    rw [k_X11_worstAt_26]
    by_cases q : rgt R F s tl w j = true
    · rw [if_pos q] at e1
      obtain ⟨B', f', e'⟩ := m_fliesWith (p := p) (pr := j) (W := W) (show 5 ≤ d by omega) (hY.t fi.refl ((f.tr (f1.wd rfl)).wd rfl)) h0 h1 (by omega)
      have fb := flW_b (R := R) hY.2.2.2.w s w p j
      have e40 : B' 87 (flW R F s w p j) = tly R F s tl w p j (flW R F s w p j) := by rw [f' 87 rfl, f1 87 rfl]; exact h _ fb.1 fb.2
      have t1 : tly R F s tl w p (j + 1) (flW R F s w p j) = tly R F s tl w p j (flW R F s w p j) + 1 := cnt_t (by simp [q])
      have tb0 : 0 ≤ tly R F s tl w p j (flW R F s w p j) := cnt_lo _ _
      have tb1 : tly R F s tl w p j (flW R F s w p j) ≤ j := cnt_hi _ _
      have wb := wst_b (R := R) (F := F) (s := s) (tl := tl) (w := w) (p := p) j
      have ew : wst R F s tl w p (j + 1) = if wst R F s tl w p j < tly R F s tl w p j (flW R F s w p j) + 1 then tly R F s tl w p j (flW R F s w p j) + 1 else wst R F s tl w p j := by
        rw [← t1]; exact if_pos q
      refine .inr ⟨(ua B' 87 (up (B' 87) (flW R F s w p j) (tly R F s tl w p j (flW R F s w p j) + 1)), .int (zI (flW R F s w p j))), ⟨((f.tr (f1.wd rfl)).tr (f'.wd rfl)).a rfl, fun x x0 x1 => ?_⟩, ?_⟩
      · show up (B' 87) (flW R F s w p j) _ x = _
        by_cases e : x = flW R F s w p j
        · subst e; rw [up_s, t1]
        · rw [up_n e, f' 87 rfl, f1 87 rfl, h x x0 x1]
          exact (cnt_f (by simp [q]; exact fun h => e h.symm)).symm
      · rw [ew]
        by_cases q2 : wst R F s tl w p j < tly R F s tl w p j (flW R F s w p j) + 1
        · rw [if_pos q2]
          simp (implicitDefEqProofs := false) (disch := omega) only [↓rI_s, ↓rV_s, ↓rI_e, ↓rV_e, zc_eq, zc_ne, zc_lt, zc_ge, zc_gt, zc_le, zlt_t, zlt_f, zle_t, zle_f, zeq_t, zeq_f, lz, zadd, zsub, zmul, zneg, zb_e0, zb_e1, boo0, boo1, ua_s, ua_n, ua_ua, up_s, u2_s, u2_f, u2_c, u2_u2, Int.natCast_add, Int.zero_add, Int.add_zero, ↓reduceIte, ne_eq, not_true_eq_false, not_false_eq_true, Int.natCast_one, ↓mc_59, e1, e', ↓zg_59_57, zl_87, e40, zs_87, ↓k_X11_worstAt_89, ↓k_X11_worstAt_90]
        · rw [if_neg q2]
          simp (implicitDefEqProofs := false) (disch := omega) only [↓rI_s, ↓rV_s, ↓rI_e, ↓rV_e, zc_eq, zc_ne, zc_lt, zc_ge, zc_gt, zc_le, zlt_t, zlt_f, zle_t, zle_f, zeq_t, zeq_f, lz, zadd, zsub, zmul, zneg, zb_e0, zb_e1, boo0, boo1, ua_s, ua_n, ua_ua, up_s, u2_s, u2_f, u2_c, u2_u2, Int.natCast_add, Int.zero_add, Int.add_zero, ↓reduceIte, ne_eq, not_true_eq_false, not_false_eq_true, Int.natCast_one, ↓mc_59, e1, e', ↓zg_59_57, zl_87, e40, zs_87, ↓k_X11_worstAt_89, ↓k_X11_worstAt_90]
    · rw [if_neg q] at e1
      refine .inr ⟨(B1, l5), ⟨f.tr (f1.wd rfl), fun x x0 x1 => ?_⟩, ?_⟩
      · show B1 87 x = _
        rw [f1 87 rfl, h x x0 x1]; exact (cnt_f (by simp [q])).symm
      · rw [show wst R F s tl w p (j + 1) = wst R F s tl w p j from if_neg q]
        simp (implicitDefEqProofs := false) (disch := omega) only [↓rI_s, ↓rV_s, ↓rI_e, ↓rV_e, zc_eq, zc_ne, zc_lt, zc_ge, zc_gt, zc_le, zlt_t, zlt_f, zle_t, zle_f, zeq_t, zeq_f, lz, zadd, zsub, zmul, zneg, zb_e0, zb_e1, boo0, boo1, ua_s, ua_n, ua_ua, up_s, u2_s, u2_f, u2_c, u2_u2, Int.natCast_add, Int.zero_add, Int.add_zero, ↓reduceIte, ne_eq, not_true_eq_false, not_false_eq_true, Int.natCast_one, ↓mc_59, e1, ↓k_X11_worstAt_90]
theorem M_look {w k : Int} (hd : 9 ≤ d) (hX : mX R F s I A) (hT : mT tl I A) (hb : tB9 tl) (hh : wI w) (hk : wI k) : mOut I A W (q_call q_MT d 259 [.ref 59, .int (zI w), .int (zI k)] (zM I A W)) (if 0 ≤ w ∧ w < rW R then (if 0 ≤ k ∧ k ≤ 1 then 0 else 2) else 1) (vLook R F s tl w k) 2 := by
  obtain ⟨d, rfl⟩ : ∃ e, d = e + 1 := ⟨d - 1, by omega⟩
  have hY := hX.y
  have hR := hX.1
  have hs := hX.2.1
  rw [cl_X11_look]
  by_cases c1 : 0 ≤ w ∧ w < rW R
  · by_cases c2 : 0 ≤ k ∧ k ≤ 1
    · rw [if_pos c1, if_pos c2]
      simp (implicitDefEqProofs := false) (disch := omega) only [↓rI_s, ↓rV_s, ↓rI_e, ↓rV_e, zc_eq, zc_ne, zc_lt, zc_ge, zc_gt, zc_le, zlt_t, zlt_f, zle_t, zle_f, zeq_t, zeq_f, lz, zadd, zsub, zmul, zneg, zb_e0, zb_e1, boo0, boo1, ua_s, ua_n, ua_ua, up_s, u2_s, u2_f, u2_c, u2_u2, Int.natCast_add, Int.zero_add, Int.add_zero, ↓reduceIte, ne_eq, not_true_eq_false, not_false_eq_true, Int.natCast_one, ↓k_X11_look_0, ↓mc_59, ↓zp_59_0, s_within, s_within_f, s_isPress, s_isPress_f, s_isWink (show 2 ≤ d by omega) hR, s_isWink_f (show 2 ≤ d by omega) hR, s_isHouse (show 2 ≤ d by omega) hR, s_isHouse_f (show 2 ≤ d by omega) hR, s_may1, s_may0, m_take (show 2 ≤ d by omega), hs]
      refine lp_x (fun j (B : (Nat → Int → Int) × Value) => q_run qm_X11_look (q_call q_MT d) 43 [.ref 59, .int (zI w), .int (zI k), .int (zI (lkN R F s tl w j).1), .int (zI (lkN R F s tl w j).2), .int (zI (j + 1)), B.2] [] (zM (u2 I 59 0 0) B.1 W)) (fun j B => fr [72, 73, 87] (ua A 77 s) B.1) (fun r => mOut I A W r 0 (vLook R F s tl w k) 2) 9 ?_ ?_ 0 (ua A 77 s, q_junk) (by omega) fr.refl
      · rintro ⟨B, l6⟩ f
        refine mOut.ok (I1 := u2 I 59 0 0) (A1 := B) (fi.refl.f rfl) ((fr.refl.a rfl).tr (f.wd rfl)) u2_s ?_
        dsimp only
        rw [k_X11_look_43]
        have : k = 0 ∨ k = 1 := by omega
        rcases this with rfl | rfl
        · simp (implicitDefEqProofs := false) (disch := omega) only [↓rI_s, ↓rV_s, ↓rI_e, ↓rV_e, zc_eq, zc_ne, zc_lt, zc_ge, zc_gt, zc_le, zlt_t, zlt_f, zle_t, zle_f, zeq_t, zeq_f, lz, zadd, zsub, zmul, zneg, zb_e0, zb_e1, boo0, boo1, ua_s, ua_n, ua_ua, up_s, u2_s, u2_f, u2_c, u2_u2, Int.natCast_add, Int.zero_add, Int.add_zero, ↓reduceIte, ne_eq, not_true_eq_false, not_false_eq_true, Int.natCast_one, ↓k_X11_look_109]; rfl
        · simp (implicitDefEqProofs := false) (disch := omega) only [↓rI_s, ↓rV_s, ↓rI_e, ↓rV_e, zc_eq, zc_ne, zc_lt, zc_ge, zc_gt, zc_le, zlt_t, zlt_f, zle_t, zle_f, zeq_t, zeq_f, lz, zadd, zsub, zmul, zneg, zb_e0, zb_e1, boo0, boo1, ua_s, ua_n, ua_ua, up_s, u2_s, u2_f, u2_c, u2_u2, Int.natCast_add, Int.zero_add, Int.add_zero, ↓reduceIte, ne_eq, not_true_eq_false, not_false_eq_true, Int.natCast_one, ↓k_X11_look_109]; rfl
      · rintro j ⟨B, l6⟩ hj f
        dsimp only at f ⊢
        have hTB : mT tl (u2 I 59 0 0) B := hT.t (fi.refl.f rfl) ((fr.refl.a rfl).tr (f.wd rfl))
        have tb := hb ((j : Int) + 1) (by omega) (by omega)
        have et := m_isTold (p := (j : Int) + 1) (W := W) (show 1 ≤ d by omega) hTB hb (by omega)
        have lb := lkN_b (R := R) (F := F) (s := s) (tl := tl) (w := w) j
        have es : lkN R F s tl w (j + 1) = if tl ((j : Int) + 1) = -1 ∧ ((lkN R F s tl w j).1 = -1 ∨ wst R F s tl w ((j : Int) + 1) 100 < (lkN R F s tl w j).2) then ((j : Int) + 1, wst R F s tl w ((j : Int) + 1) 100) else lkN R F s tl w j := rfl
        rw [k_X11_look_43]
        by_cases q1 : tl ((j : Int) + 1) = -1
        · rw [zb_f (fun q => q q1)] at et
          obtain ⟨B', f', e'⟩ := m_worstAt (p := (j : Int) + 1) (tl := tl) (W := W) (show 7 ≤ d by omega) (hY.t fi.refl (f.wd rfl)) hTB hb c1.1 c1.2
          have wb := wst_b (R := R) (F := F) (s := s) (tl := tl) (w := w) (p := (j : Int) + 1) 100
          refine .inr ⟨(B', .int (zI (wst R F s tl w ((j : Int) + 1) 100))), f.tr f', ?_⟩
          by_cases q2 : (lkN R F s tl w j).1 = -1
          · rw [es, if_pos (show tl ((j : Int) + 1) = -1 ∧ ((lkN R F s tl w j).1 = -1 ∨ wst R F s tl w ((j : Int) + 1) 100 < (lkN R F s tl w j).2) from ⟨q1, .inl q2⟩)]
            simp (implicitDefEqProofs := false) (disch := omega) only [↓rI_s, ↓rV_s, ↓rI_e, ↓rV_e, zc_eq, zc_ne, zc_lt, zc_ge, zc_gt, zc_le, zlt_t, zlt_f, zle_t, zle_f, zeq_t, zeq_f, lz, zadd, zsub, zmul, zneg, zb_e0, zb_e1, boo0, boo1, ua_s, ua_n, ua_ua, up_s, u2_s, u2_f, u2_c, u2_u2, Int.natCast_add, Int.zero_add, Int.add_zero, ↓reduceIte, ne_eq, not_true_eq_false, not_false_eq_true, Int.natCast_one, ↓mc_59, et, e', ↓k_X11_look_86, ↓k_X11_look_93]
          · by_cases q3 : wst R F s tl w ((j : Int) + 1) 100 < (lkN R F s tl w j).2
            · rw [es, if_pos (show tl ((j : Int) + 1) = -1 ∧ ((lkN R F s tl w j).1 = -1 ∨ wst R F s tl w ((j : Int) + 1) 100 < (lkN R F s tl w j).2) from ⟨q1, .inr q3⟩)]
              simp (implicitDefEqProofs := false) (disch := omega) only [↓rI_s, ↓rV_s, ↓rI_e, ↓rV_e, zc_eq, zc_ne, zc_lt, zc_ge, zc_gt, zc_le, zlt_t, zlt_f, zle_t, zle_f, zeq_t, zeq_f, lz, zadd, zsub, zmul, zneg, zb_e0, zb_e1, boo0, boo1, ua_s, ua_n, ua_ua, up_s, u2_s, u2_f, u2_c, u2_u2, Int.natCast_add, Int.zero_add, Int.add_zero, ↓reduceIte, ne_eq, not_true_eq_false, not_false_eq_true, Int.natCast_one, ↓mc_59, et, e', ↓k_X11_look_86, ↓k_X11_look_93]
            · rw [es, if_neg (show ¬ (tl ((j : Int) + 1) = -1 ∧ ((lkN R F s tl w j).1 = -1 ∨ wst R F s tl w ((j : Int) + 1) 100 < (lkN R F s tl w j).2)) from fun q => by rcases q.2 with q | q; exact q2 q; exact q3 q)]
              simp (implicitDefEqProofs := false) (disch := omega) only [↓rI_s, ↓rV_s, ↓rI_e, ↓rV_e, zc_eq, zc_ne, zc_lt, zc_ge, zc_gt, zc_le, zlt_t, zlt_f, zle_t, zle_f, zeq_t, zeq_f, lz, zadd, zsub, zmul, zneg, zb_e0, zb_e1, boo0, boo1, ua_s, ua_n, ua_ua, up_s, u2_s, u2_f, u2_c, u2_u2, Int.natCast_add, Int.zero_add, Int.add_zero, ↓reduceIte, ne_eq, not_true_eq_false, not_false_eq_true, Int.natCast_one, ↓mc_59, et, e', ↓k_X11_look_93]
        · rw [zb_t q1] at et
          refine .inr ⟨(B, l6), f, ?_⟩
          rw [es, if_neg (show ¬ (tl ((j : Int) + 1) = -1 ∧ ((lkN R F s tl w j).1 = -1 ∨ wst R F s tl w ((j : Int) + 1) 100 < (lkN R F s tl w j).2)) from fun q => q1 q.1)]
          simp (implicitDefEqProofs := false) (disch := omega) only [↓rI_s, ↓rV_s, ↓rI_e, ↓rV_e, zc_eq, zc_ne, zc_lt, zc_ge, zc_gt, zc_le, zlt_t, zlt_f, zle_t, zle_f, zeq_t, zeq_f, lz, zadd, zsub, zmul, zneg, zb_e0, zb_e1, boo0, boo1, ua_s, ua_n, ua_ua, up_s, u2_s, u2_f, u2_c, u2_u2, Int.natCast_add, Int.zero_add, Int.add_zero, ↓reduceIte, ne_eq, not_true_eq_false, not_false_eq_true, Int.natCast_one, ↓mc_59, et, ↓k_X11_look_93]
    · rw [if_pos c1, if_neg c2]
      exact mOut.il fr.refl (by simp (implicitDefEqProofs := false) (disch := omega) only [↓rI_s, ↓rV_s, ↓rI_e, ↓rV_e, zc_eq, zc_ne, zc_lt, zc_ge, zc_gt, zc_le, zlt_t, zlt_f, zle_t, zle_f, zeq_t, zeq_f, lz, zadd, zsub, zmul, zneg, zb_e0, zb_e1, boo0, boo1, ua_s, ua_n, ua_ua, up_s, u2_s, u2_f, u2_c, u2_u2, Int.natCast_add, Int.zero_add, Int.add_zero, ↓reduceIte, ne_eq, not_true_eq_false, not_false_eq_true, Int.natCast_one, ↓k_X11_look_0, ↓k_X11_look_29, ↓k_X11_look_86, ↓k_X11_look_93, ↓k_X11_look_109, zp_59_0, ↓mc_59, ↓mc_59, ↓zp_59_0, s_within, s_within_f, s_isPress, s_isPress_f, s_isWink (show 2 ≤ d by omega) hR, s_isWink_f (show 2 ≤ d by omega) hR, s_isHouse (show 2 ≤ d by omega) hR, s_isHouse_f (show 2 ≤ d by omega) hR, s_may1, s_may0, m_take (show 2 ≤ d by omega)])
  · rw [if_neg c1]
    exact mOut.ns (by simp (implicitDefEqProofs := false) (disch := omega) only [↓rI_s, ↓rV_s, ↓rI_e, ↓rV_e, zc_eq, zc_ne, zc_lt, zc_ge, zc_gt, zc_le, zlt_t, zlt_f, zle_t, zle_f, zeq_t, zeq_f, lz, zadd, zsub, zmul, zneg, zb_e0, zb_e1, boo0, boo1, ua_s, ua_n, ua_ua, up_s, u2_s, u2_f, u2_c, u2_u2, Int.natCast_add, Int.zero_add, Int.add_zero, ↓reduceIte, ne_eq, not_true_eq_false, not_false_eq_true, Int.natCast_one, ↓k_X11_look_0, ↓k_X11_look_29, ↓k_X11_look_86, ↓k_X11_look_93, ↓k_X11_look_109, zp_59_0, ↓mc_59, ↓mc_59, ↓zp_59_0, s_within, s_within_f, s_isPress, s_isPress_f, s_isWink (show 2 ≤ d by omega) hR, s_isWink_f (show 2 ≤ d by omega) hR, s_isHouse (show 2 ≤ d by omega) hR, s_isHouse_f (show 2 ≤ d by omega) hR, s_may1, s_may0, m_take (show 2 ≤ d by omega)])
end BM
