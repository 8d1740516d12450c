--DEPS 77.panic 76.level 74.thumb
/-! Seasons. -/
theorem mask_eq (v : Int32) : ((Int32.toUInt32 v >>> (Int32.toUInt32 (16 : Int32) &&& Int32.toUInt32 31)).toInt32) &&& (32767 : Int32) = (v >>> ((16 : Int32) &&& 31)) &&& (32767 : Int32) := by
  refine Int32.toBitVec_inj.1 ?_
  rw [Int32.toBitVec_and, Int32.toBitVec_and]
  refine BitVec.eq_of_getLsbD_eq fun i hi => ?_
  rw [BitVec.getLsbD_and, BitVec.getLsbD_and]
  show ((v.toBitVec >>> (16 : Nat)).getLsbD i && _) = ((v.toBitVec.sshiftRight 16).getLsbD i && _)
  by_cases h : i < 15
  · rw [BitVec.getLsbD_ushiftRight, BitVec.getLsbD_sshiftRight]
    simp [show 16 + i < 32 by omega, show ¬ 32 ≤ i by omega]
  · have e : (Int32.toBitVec 32767).getLsbD i = false := by
      have : ∀ i : Fin 32, 15 ≤ i.val → (Int32.toBitVec 32767).getLsbD i.val = false := by decide
      exact this ⟨i, hi⟩ (by show 15 ≤ i; omega)
    rw [e, Bool.and_false, Bool.and_false]
def dq (z : Int) : Int := ((zI z >>> (zI 16 &&& zI 31)) &&& zI 32767).toInt
theorem dq_z (z : Int) : (zI z >>> (zI 16 &&& zI 31)) &&& zI 32767 = zI (dq z) := (zI_of _).symm
theorem and_b (v : Int32) : 0 ≤ (v &&& zI 32767).toInt ∧ (v &&& zI 32767).toInt ≤ 32767 := by
  have h1 : (v &&& zI 32767).toBitVec.toNat ≤ 32767 := by
    rw [Int32.toBitVec_and, BitVec.toNat_and]
    exact Nat.le_trans Nat.and_le_right (by decide)
  have h2 : (v &&& zI 32767).toInt = ((v &&& zI 32767).toBitVec.toNat : Int) := by
    show (v &&& zI 32767).toBitVec.toInt = _
    rw [BitVec.toInt_eq_toNat_of_lt (by omega)]
  omega
theorem dq_b (z : Int) : 0 ≤ dq z ∧ dq z ≤ 32767 := and_b _
abbrev nx (z : Int) : Int := z * 1103515245 + 12345
abbrev dv (z n : Int) : Int := dq z - dq z / n * n
abbrev zT : Type := Int × Int × (Int → Int)
/-- one turn of a season: seed, flicks done, row -/
def ss1 (R : zR) (F : zF) (q : Int) (i : Int) (st : zT) : zT :=
  let s1 := flk R F st.2.2 (dv (nx st.1) (rW R)) (dv (nx (nx st.1)) 9 + 1) (dv (nx (nx (nx st.1))) 2)
  let s2 := if dv (nx (nx (nx (nx st.1)))) 16 < q then shk R s1 else s1
  (nx (nx (nx (nx st.1))), st.2.1 + zb (canF R st.2.2 (dv (nx st.1) (rW R))), if i - i / 4 * 4 = 0 then pas R s2 else s2)
def ssN (R : zR) (F : zF) (q : Int) (st : zT) : Nat → zT
  | 0 => st
  | n + 1 => ss1 R F q (n + 1) (ssN R F q st n)
def ssn (R : zR) (F : zF) (q z n : Int) (s : Int → Int) : zT := if rW R = 0 then (z, 0, s) else ssN R F q (z, 0, s) n.toNat
theorem dv_b {z n : Int} (h : 0 < n) : 0 ≤ dv z n ∧ dv z n < n := emd (dq_b z).1 h
theorem ss1_V {R : zR} {F : zF} {q i : Int} {st : zT} (hR : wR R) (hF : wF F) (hW : 0 < rW R) (hV : sV R st.2.2) : sV R (ss1 R F q i st).2.2 := by
  have b := dv_b (z := nx st.1) (n := rW R) (by omega)
  unfold ss1
  dsimp only
  have h1 := hV.fk (F := F) (p := dv (nx (nx st.1)) 9 + 1) (h := dv (nx (nx (nx st.1))) 2) hR hF b.1 b.2
  split
  · split
    · exact (h1.sh hR).pa hR
    · exact h1.pa hR
  · split
    · exact h1.sh hR
    · exact h1
theorem ssN_V {R : zR} {F : zF} {q : Int} {st : zT} (hR : wR R) (hF : wF F) (hW : 0 < rW R) (hV : sV R st.2.2) : ∀ n : Nat, sV R (ssN R F q st n).2.2
  | 0 => hV
  | n + 1 => ss1_V hR hF hW (ssN_V hR hF hW hV n)
theorem ssn_V {R : zR} {F : zF} {q z n : Int} {s : Int → Int} (hR : wR R) (hF : wF F) (hV : sV R s) : sV R (ssn R F q z n s).2.2 := by
  unfold ssn
  split
  · exact hV
  · exact ssN_V hR hF (by omega) hV _
section SE
variable {d : Nat} {I : Nat → Nat → Int} {A : Nat → Int → Int} {W : qWt} {R : zR} {F : zF} {s : Int → Int}
theorem c_draw {n : Int} (hd : 1 ≤ d) (hn : 1 ≤ n ∧ n ≤ 100) : q_call q_MT d 89 [.ref 56, .int (zI n)] (zM I A W) = some (.inl (some (.int (zI (dv (nx (I 56 2)) n)))), zM (u2 I 56 2 (nx (I 56 2))) A W) := by
  obtain ⟨d, rfl⟩ : ∃ e, d = e + 1 := ⟨d - 1, by omega⟩
  have b : 0 ≤ dq (I 56 2 * 1103515245 + 12345) ∧ dq (I 56 2 * 1103515245 + 12345) ≤ 32767 := dq_b _
  rw [cl_X7_draw, k_X7_draw_0]
  simp only [mask_eq]
  simp (implicitDefEqProofs := false) (disch := omega) only [↓rI_s, ↓rV_s, ↓rI_e, ↓rV_e, zc_eq, zc_ne, zc_lt, zc_ge, zc_gt, zc_le, zlt_t, zlt_f, zle_t, zle_f, zeq_t, zeq_f, lz, zadd, zsub, zmul, zneg, zb_e0, zb_e1, boo0, boo1, ua_s, ua_n, ua_ua, up_s, u2_s, u2_f, u2_c, u2_u2, Int.natCast_add, Int.zero_add, Int.add_zero, ↓reduceIte, ne_eq, not_true_eq_false, not_false_eq_true, Int.natCast_one, ↓zg_56_2, ↓zp_56_2, ↓k_X7_draw_37, dq_z, zdiv]
theorem m_draws {n : Int} (hd : 1 ≤ d) (hn : 1 ≤ n ∧ n ≤ 100) : q_call q_MT d 269 [.ref 59, .int (zI n)] (zM I A W) = some (.inl (some (.int (zI (dv (nx (I 59 58)) n)))), zM (u2 I 59 58 (nx (I 59 58))) A W) := by
  obtain ⟨d, rfl⟩ : ∃ e, d = e + 1 := ⟨d - 1, by omega⟩
  have b : 0 ≤ dq (I 59 58 * 1103515245 + 12345) ∧ dq (I 59 58 * 1103515245 + 12345) ≤ 32767 := dq_b _
  rw [cl_X11_draws]
  simp (implicitDefEqProofs := false) (disch := omega) only [↓rI_s, ↓rV_s, ↓rI_e, ↓rV_e, zc_eq, zc_ne, zc_lt, zc_ge, zc_gt, zc_le, zlt_t, zlt_f, zle_t, zle_f, zeq_t, zeq_f, lz, zadd, zsub, zmul, zneg, zb_e0, zb_e1, boo0, boo1, ua_s, ua_n, ua_ua, up_s, u2_s, u2_f, u2_c, u2_u2, Int.natCast_add, Int.zero_add, Int.add_zero, ↓reduceIte, ne_eq, not_true_eq_false, not_false_eq_true, Int.natCast_one, ↓k_X11_draws_0, ↓zg_59_58, zp_59_58, dq_z, zdiv]
abbrev sK : List (Nat × Nat) := [(30, 7), (30, 8), (56, 2), (56, 3)]
theorem tB.t {I I' : Nat → Nat → Int} {A A' : Nat → Int → Int} (h : tB R s I A) (f : fi [(56, 2), (56, 3)] I I') (g : fr [22, 23, 58] A A') : tB R s I' A' := by
  unfold tB
  rw [f 30 7 rfl, f 30 8 rfl, g 31 rfl, g 32 rfl, g 33 rfl, g 34 rfl, g 35 rfl]; exact h
theorem c_run1 {l1 l5 l6 l7 : Value} {q n : Int} {k : Nat} {st : zT} (hd : 5 ≤ d) (hR : cR R I A) (hL : cL F I A) (hb : tB R st.2.2 I A) (hV : sV R st.2.2) (hW : 0 < rW R) (hq : 0 ≤ q ∧ q ≤ 16) (hn : n ≤ 96) (hk : (k : Int) + 1 ≤ n) (e2 : I 56 2 = st.1) (e3 : I 56 3 = st.2.1) : ∃ I' A' l5' l6' l7', fi sK I I' ∧ fr tL A A' ∧ tB R (ss1 R F q (k + 1) st).2.2 I' A' ∧ I' 56 2 = (ss1 R F q (k + 1) st).1 ∧ I' 56 3 = (ss1 R F q (k + 1) st).2.1 ∧ q_run qm_X7_run (q_call q_MT d) 24 [.ref 56, l1, .int (zI q), .int (zI n), .int (zI (k + 1)), l5, l6, l7] [] (zM I A W) = q_run qm_X7_run (q_call q_MT d) 24 [.ref 56, l1, .int (zI q), .int (zI n), .int (zI (k + 1 + 1)), l5', l6', l7'] [] (zM I' A' W) := by
  have hw := hR.1.2.1
  have e1 := hR.2.2.1
  have hF := hL.w
  obtain ⟨z, dn, t⟩ := st
  dsimp only at hb hV e2 e3 ⊢
  have b1 := dv_b (z := nx z) (n := rW R) (by omega)
  have b2 := dv_b (z := nx (nx z)) (n := 9) (by decide)
  have b3 := dv_b (z := nx (nx (nx z))) (n := 2) (by decide)
  have b4 := dv_b (z := nx (nx (nx (nx z)))) (n := 16) (by decide)
  have d1 := c_draw (I := I) (A := A) (W := W) (d := d) (n := rW R) (by omega) (by omega)
  rw [e2] at d1
  have d2 := c_draw (I := u2 I 56 2 (nx z)) (A := A) (W := W) (d := d) (n := 9) (by omega) (by decide)
  rw [u2_s, u2_u2] at d2
  have d3 := c_draw (I := u2 I 56 2 (nx (nx z))) (A := A) (W := W) (d := d) (n := 2) (by omega) (by decide)
  rw [u2_s, u2_u2] at d3
  have f3 : fi [(56, 2), (56, 3)] I (u2 I 56 2 (nx (nx (nx z)))) := fi.refl.f rfl
  obtain ⟨A1, g1, h1, x1⟩ := c30_flick (I := u2 I 56 2 (nx (nx (nx z)))) (A := A) (W := W) (s := t) (w := dv (nx z) (rW R)) (p := dv (nx (nx z)) 9 + 1) (h := dv (nx (nx (nx z))) 2) (show 4 ≤ d by omega) (hR.fi f3 rfl) (hb.t f3 fr.refl) hV.1 hV (hL.fi f3 rfl) b1.1 b1.2 (by omega)
  have hV1 := hV.fk (F := F) (p := dv (nx (nx z)) 9 + 1) (h := dv (nx (nx (nx z))) 2) hR.1 hF b1.1 b1.2
  -- the rest, from the place behind the flick
  have rest : ∀ (I5 : Nat → Nat → Int) (l5 l6 l7 : Value), fi [(56, 2), (56, 3)] I I5 → I5 56 2 = nx (nx (nx z)) → ∃ I' A', fi sK I5 I' ∧ fr tL A1 A' ∧ tB R (ss1 R F q (k + 1) (z, dn, t)).2.2 I' A' ∧ I' 56 2 = nx (nx (nx (nx z))) ∧ I' 56 3 = I5 56 3 ∧ q_run qm_X7_run (q_call q_MT d) 86 [.ref 56, l1, .int (zI q), .int (zI n), .int (zI (k + 1)), l5, l6, l7] [] (zM I5 A1 W) = q_run qm_X7_run (q_call q_MT d) 24 [.ref 56, l1, .int (zI q), .int (zI n), .int (zI (k + 1 + 1)), l5, l6, l7] [] (zM I' A' W) := by
    intro I5 l5 l6 l7 fI5 eI5
    have d4 := c_draw (I := I5) (A := A1) (W := W) (d := d) (n := 16) (by omega) (by decide)
    rw [eI5] at d4
    have f6 : fi [(56, 2), (56, 3)] I (u2 I5 56 2 (nx (nx (nx (nx z))))) := fI5.f rfl
    have f7 : fi [(56, 2), (56, 3)] I5 (u2 I5 56 2 (nx (nx (nx (nx z))))) := fi.refl.f rfl
    have hR6 := (hR.fi f6 rfl).fr g1 rfl
    have h6 : tB R (flk R F t (dv (nx z) (rW R)) (dv (nx (nx z)) 9 + 1) (dv (nx (nx (nx z))) 2)) (u2 I5 56 2 (nx (nx (nx (nx z))))) A1 := by
      unfold tB
      rw [f6 30 7 rfl, f6 30 8 rfl]
      rw [f3 30 7 rfl, f3 30 8 rfl] at h1
      exact h1
    -- behind the shake
    have sh : ∃ A2, fr tL A1 A2 ∧ tB R (if dv (nx (nx (nx (nx z)))) 16 < q then shk R (flk R F t (dv (nx z) (rW R)) (dv (nx (nx z)) 9 + 1) (dv (nx (nx (nx z))) 2)) else flk R F t (dv (nx z) (rW R)) (dv (nx (nx z)) 9 + 1) (dv (nx (nx (nx z))) 2)) (u2 I5 56 2 (nx (nx (nx (nx z))))) A2 ∧ q_run qm_X7_run (q_call q_MT d) 86 [.ref 56, l1, .int (zI q), .int (zI n), .int (zI (k + 1)), l5, l6, l7] [] (zM I5 A1 W) = q_run qm_X7_run (q_call q_MT d) 104 [.ref 56, l1, .int (zI q), .int (zI n), .int (zI (k + 1)), l5, l6, l7] [] (zM (u2 I5 56 2 (nx (nx (nx (nx z))))) A2 W) := by
      rw [k_X7_run_86]
      by_cases q1 : dv (nx (nx (nx (nx z)))) 16 < q
      · rw [if_pos q1]
        obtain ⟨A2, g2, h2, x2⟩ := c30_shakeAll (W := W) (show 4 ≤ d by omega) hR6 h6 hV1.1 hV1
        refine ⟨A2, g2.wd rfl, h2, ?_⟩
        simp (implicitDefEqProofs := false) (disch := omega) only [↓rI_s, ↓rV_s, ↓rI_e, ↓rV_e, zc_eq, zc_ne, zc_lt, zc_ge, zc_gt, zc_le, zlt_t, zlt_f, zle_t, zle_f, zeq_t, zeq_f, lz, zadd, zsub, zmul, zneg, zb_e0, zb_e1, boo0, boo1, ua_s, ua_n, ua_ua, up_s, u2_s, u2_f, u2_c, u2_u2, Int.natCast_add, Int.zero_add, Int.add_zero, ↓reduceIte, ne_eq, not_true_eq_false, not_false_eq_true, Int.natCast_one, ↓mc_56, d4, ↓zg_56_1, ↓mc_30, x2]
      · rw [if_neg q1]
        refine ⟨A1, fr.refl, h6, ?_⟩
        simp (implicitDefEqProofs := false) (disch := omega) only [↓rI_s, ↓rV_s, ↓rI_e, ↓rV_e, zc_eq, zc_ne, zc_lt, zc_ge, zc_gt, zc_le, zlt_t, zlt_f, zle_t, zle_f, zeq_t, zeq_f, lz, zadd, zsub, zmul, zneg, zb_e0, zb_e1, boo0, boo1, ua_s, ua_n, ua_ua, up_s, u2_s, u2_f, u2_c, u2_u2, Int.natCast_add, Int.zero_add, Int.add_zero, ↓reduceIte, ne_eq, not_true_eq_false, not_false_eq_true, Int.natCast_one, ↓mc_56, d4]
    obtain ⟨A2, g2, h2, x2⟩ := sh
    rw [x2, k_X7_run_104]
    unfold ss1
    dsimp only
    have hV2 : sV R (if dv (nx (nx (nx (nx z)))) 16 < q then shk R (flk R F t (dv (nx z) (rW R)) (dv (nx (nx z)) 9 + 1) (dv (nx (nx (nx z))) 2)) else flk R F t (dv (nx z) (rW R)) (dv (nx (nx z)) 9 + 1) (dv (nx (nx (nx z))) 2)) := by
      split
      · exact hV1.sh hR.1
      · exact hV1
    generalize (if dv (nx (nx (nx (nx z)))) 16 < q then shk R (flk R F t (dv (nx z) (rW R)) (dv (nx (nx z)) 9 + 1) (dv (nx (nx (nx z))) 2)) else flk R F t (dv (nx z) (rW R)) (dv (nx (nx z)) 9 + 1) (dv (nx (nx (nx z))) 2)) = s2 at h2 hV2 ⊢
    by_cases q2 : ((k : Int) + 1) - ((k : Int) + 1) / 4 * 4 = 0
    · rw [if_pos q2]
      obtain ⟨A3, g3, h3, x3⟩ := c30_passDay (W := W) (show 3 ≤ d by omega) (hR6.fr g2 rfl) h2 hV2.1 hV2
      refine ⟨u2 (u2 I5 56 2 (nx (nx (nx (nx z))))) 30 7 (u2 I5 56 2 (nx (nx (nx (nx z)))) 30 7 + 1), A3, (f7.wd rfl).f rfl, g2.tr (g3.wd rfl), ?_, ?_, ?_, ?_⟩
      · unfold tB
        rw [u2_s, u2_f (by decide)]; exact h3
      · rw [u2_c (by decide), u2_s]
      · rw [u2_c (by decide), u2_f (by decide)]
      · simp (implicitDefEqProofs := false) (disch := omega) only [↓rI_s, ↓rV_s, ↓rI_e, ↓rV_e, zc_eq, zc_ne, zc_lt, zc_ge, zc_gt, zc_le, zlt_t, zlt_f, zle_t, zle_f, zeq_t, zeq_f, lz, zadd, zsub, zmul, zneg, zb_e0, zb_e1, boo0, boo1, ua_s, ua_n, ua_ua, up_s, u2_s, u2_f, u2_c, u2_u2, Int.natCast_add, Int.zero_add, Int.add_zero, ↓reduceIte, ne_eq, not_true_eq_false, not_false_eq_true, Int.natCast_one, zdiv, ↓zg_56_1, ↓mc_30, x3, ↓k_X7_run_118]
    · rw [if_neg q2]
      refine ⟨_, A2, f7.wd rfl, g2, h2, u2_s, by rw [u2_f (by decide)], ?_⟩
      simp (implicitDefEqProofs := false) (disch := omega) only [↓rI_s, ↓rV_s, ↓rI_e, ↓rV_e, zc_eq, zc_ne, zc_lt, zc_ge, zc_gt, zc_le, zlt_t, zlt_f, zle_t, zle_f, zeq_t, zeq_f, lz, zadd, zsub, zmul, zneg, zb_e0, zb_e1, boo0, boo1, ua_s, ua_n, ua_ua, up_s, u2_s, u2_f, u2_c, u2_u2, Int.natCast_add, Int.zero_add, Int.add_zero, ↓reduceIte, ne_eq, not_true_eq_false, not_false_eq_true, Int.natCast_one, zdiv, ↓k_X7_run_118]
  by_cases q3 : canF R t (dv (nx z) (rW R))
  · rw [zb_t q3] at x1
    obtain ⟨I', A', f8, g8, h8, y2, y3, x8⟩ := rest (u2 (u2 I 56 2 (nx (nx (nx z)))) 56 3 (dn + 1)) (.int (zI (dv (nx z) (rW R)))) (.int (zI (dv (nx (nx z)) 9 + 1))) (.int (zI (dv (nx (nx (nx z))) 2))) ((fi.refl.f rfl).f rfl) (by rw [u2_f (by decide), u2_s])
    refine ⟨I', A', .int (zI (dv (nx z) (rW R))), .int (zI (dv (nx (nx z)) 9 + 1)), .int (zI (dv (nx (nx (nx z))) 2)), ((fi.refl.f rfl).f rfl : fi sK I (u2 (u2 I 56 2 (nx (nx (nx z)))) 56 3 (dn + 1))).tr f8, (g1.wd rfl).tr g8, h8, y2, ?_, ?_⟩
    · rw [y3, u2_s]
      show dn + 1 = dn + zb _
      rw [zb_t q3]
    · rw [k_X7_run_24]
      simp (implicitDefEqProofs := false) (disch := omega) only [↓rI_s, ↓rV_s, ↓rI_e, ↓rV_e, zc_eq, zc_ne, zc_lt, zc_ge, zc_gt, zc_le, zlt_t, zlt_f, zle_t, zle_f, zeq_t, zeq_f, lz, zadd, zsub, zmul, zneg, zb_e0, zb_e1, boo0, boo1, ua_s, ua_n, ua_ua, up_s, u2_s, u2_f, u2_c, u2_u2, Int.natCast_add, Int.zero_add, Int.add_zero, ↓reduceIte, ne_eq, not_true_eq_false, not_false_eq_true, Int.natCast_one, ↓zg_56_0, ↓zg_5_1, e1, ↓mc_56, d1, d2, d3, ↓zg_56_1, ↓mc_30, x1, ↓zg_56_3, ↓zp_56_3, e3]
      exact x8
  · rw [zb_f q3] at x1
    obtain ⟨I', A', f8, g8, h8, y2, y3, x8⟩ := rest (u2 I 56 2 (nx (nx (nx z)))) (.int (zI (dv (nx z) (rW R)))) (.int (zI (dv (nx (nx z)) 9 + 1))) (.int (zI (dv (nx (nx (nx z))) 2))) f3 u2_s
    refine ⟨I', A', .int (zI (dv (nx z) (rW R))), .int (zI (dv (nx (nx z)) 9 + 1)), .int (zI (dv (nx (nx (nx z))) 2)), (f3.wd rfl).tr f8, (g1.wd rfl).tr g8, h8, y2, ?_, ?_⟩
    · rw [y3, u2_f (by decide), e3]
      show dn = dn + zb _
      rw [zb_f q3, Int.add_zero]
    · rw [k_X7_run_24]
      simp (implicitDefEqProofs := false) (disch := omega) only [↓rI_s, ↓rV_s, ↓rI_e, ↓rV_e, zc_eq, zc_ne, zc_lt, zc_ge, zc_gt, zc_le, zlt_t, zlt_f, zle_t, zle_f, zeq_t, zeq_f, lz, zadd, zsub, zmul, zneg, zb_e0, zb_e1, boo0, boo1, ua_s, ua_n, ua_ua, up_s, u2_s, u2_f, u2_c, u2_u2, Int.natCast_add, Int.zero_add, Int.add_zero, ↓reduceIte, ne_eq, not_true_eq_false, not_false_eq_true, Int.natCast_one, ↓zg_56_0, ↓zg_5_1, e1, ↓mc_56, d1, d2, d3, ↓zg_56_1, ↓mc_30, x1]
      exact x8
theorem c_runS {q n z : Int} (hd : 6 ≤ d) (hR : cR R I A) (hL : cL F I A) (hb : tB R s I A) (hV : sV R s) (hq : 0 ≤ q ∧ q ≤ 16) (hn : 1 ≤ n ∧ n ≤ 96) : ∃ I' A', fi sK I I' ∧ fr tL A A' ∧ tB R (ssn R F q z n s).2.2 I' A' ∧ I' 56 3 = (ssn R F q z n s).2.1 ∧ q_call q_MT d 88 [.ref 56, .int (zI z), .int (zI q), .int (zI n)] (zM I A W) = some (.inl none, zM I' A' W) := by
  obtain ⟨d, rfl⟩ : ∃ e, d = e + 1 := ⟨d - 1, by omega⟩
  have e1 := hR.2.2.1
  have hw := hR.1.2.1
  have f0 : fi [(56, 2), (56, 3)] I (u2 (u2 I 56 2 z) 56 3 0) := (fi.refl.f rfl).f rfl
  rw [cl_X7_run]
  unfold ssn
  by_cases q0 : rW R = 0
  · rw [if_pos q0]
    refine ⟨_, A, f0.wd rfl, fr.refl, hb.t f0 fr.refl, u2_s, ?_⟩
    simp (implicitDefEqProofs := false) (disch := omega) only [↓rI_s, ↓rV_s, ↓rI_e, ↓rV_e, zc_eq, zc_ne, zc_lt, zc_ge, zc_gt, zc_le, zlt_t, zlt_f, zle_t, zle_f, zeq_t, zeq_f, lz, zadd, zsub, zmul, zneg, zb_e0, zb_e1, boo0, boo1, ua_s, ua_n, ua_ua, up_s, u2_s, u2_f, u2_c, u2_u2, Int.natCast_add, Int.zero_add, Int.add_zero, ↓reduceIte, ne_eq, not_true_eq_false, not_false_eq_true, Int.natCast_one, ↓k_X7_run_0, ↓zp_56_2, ↓zp_56_3, ↓zg_56_0, ↓zg_5_1, e1]
  · rw [if_neg q0]
    simp (implicitDefEqProofs := false) (disch := omega) only [↓rI_s, ↓rV_s, ↓rI_e, ↓rV_e, zc_eq, zc_ne, zc_lt, zc_ge, zc_gt, zc_le, zlt_t, zlt_f, zle_t, zle_f, zeq_t, zeq_f, lz, zadd, zsub, zmul, zneg, zb_e0, zb_e1, boo0, boo1, ua_s, ua_n, ua_ua, up_s, u2_s, u2_f, u2_c, u2_u2, Int.natCast_add, Int.zero_add, Int.add_zero, ↓reduceIte, ne_eq, not_true_eq_false, not_false_eq_true, Int.natCast_one, ↓k_X7_run_0, ↓zp_56_2, ↓zp_56_3, ↓zg_56_0, ↓zg_5_1, e1]
    refine lp_x (fun j (M : (Nat → Nat → Int) × (Nat → Int → Int) × Value × Value × Value) => q_run qm_X7_run (q_call q_MT d) 24 [.ref 56, .int (zI z), .int (zI q), .int (zI n), .int (zI (j + 1)), M.2.2.1, M.2.2.2.1, M.2.2.2.2] [] (zM M.1 M.2.1 W)) (fun j M => fi sK I M.1 ∧ fr tL A M.2.1 ∧ tB R (ssN R F q (z, 0, s) j).2.2 M.1 M.2.1 ∧ M.1 56 2 = (ssN R F q (z, 0, s) j).1 ∧ M.1 56 3 = (ssN R F q (z, 0, s) j).2.1) (fun r => ∃ I' A', fi sK I I' ∧ fr tL A A' ∧ tB R (ssN R F q (z, 0, s) n.toNat).2.2 I' A' ∧ I' 56 3 = (ssN R F q (z, 0, s) n.toNat).2.1 ∧ r = some (.inl none, zM I' A' W)) n.toNat ?_ ?_ 0 (u2 (u2 I 56 2 z) 56 3 0, A, q_junk, q_junk, q_junk) (by omega) ⟨f0.wd rfl, fr.refl, hb.t f0 fr.refl, rfl, rfl⟩
    · rintro ⟨I1, A1, l5, l6, l7⟩ ⟨f, g, h, y2, y3⟩
      refine ⟨I1, A1, f, g, h, y3, ?_⟩
      dsimp only
      rw [k_X7_run_24]
      simp (implicitDefEqProofs := false) (disch := omega) only [↓rI_s, ↓rV_s, ↓rI_e, ↓rV_e, zc_eq, zc_ne, zc_lt, zc_ge, zc_gt, zc_le, zlt_t, zlt_f, zle_t, zle_f, zeq_t, zeq_f, lz, zadd, zsub, zmul, zneg, zb_e0, zb_e1, boo0, boo1, ua_s, ua_n, ua_ua, up_s, u2_s, u2_f, u2_c, u2_u2, Int.natCast_add, Int.zero_add, Int.add_zero, ↓reduceIte, ne_eq, not_true_eq_false, not_false_eq_true, Int.natCast_one]
    · rintro j ⟨I1, A1, l5, l6, l7⟩ hj ⟨f, g, h, y2, y3⟩
      dsimp only at f g h y2 y3 ⊢
      obtain ⟨I2, A2, m5, m6, m7, f2, g2, h2, z2, z3, x⟩ := c_run1 (l1 := .int (zI z)) (l5 := l5) (l6 := l6) (l7 := l7) (q := q) (n := n) (k := j) (W := W) (F := F) (show 5 ≤ d by omega) ((hR.fi f rfl).fr g rfl) ((hL.fi f rfl).fr g rfl) h (ssN_V hR.1 hL.w (by omega) hV j) (by omega) hq (by omega) (by omega) y2 y3
      exact .inr ⟨(I2, A2, m5, m6, m7), ⟨f.tr f2, g.tr g2, h2, z2, z3⟩, x⟩
theorem m_goes1 {l1 l5 l6 : Value} {q n : Int} {k : Nat} {st : zT} (hd : 9 ≤ d) (hR : mR R I A) (hL : mL F I A) (e7 : A 77 = st.2.2) (hV : sV R st.2.2) (hW : 0 < rW R) (hq : 0 ≤ q ∧ q ≤ 16) (hn : n ≤ 96) (hk : (k : Int) + 1 ≤ n) (e2 : I 59 58 = st.1) (e3 : I 59 59 = st.2.1) : ∃ I' A' l5' l6', fi [(59, 58), (59, 59)] I I' ∧ fr [72, 73, 77, 79] A A' ∧ A' 77 = (ss1 R F q (k + 1) st).2.2 ∧ I' 59 58 = (ss1 R F q (k + 1) st).1 ∧ I' 59 59 = (ss1 R F q (k + 1) st).2.1 ∧ q_run qm_X11_seasonGoes (q_call q_MT d) 17 [.ref 59, l1, .int (zI q), .int (zI n), .int (zI (k + 1)), l5, l6] [] (zM I A W) = q_run qm_X11_seasonGoes (q_call q_MT d) 17 [.ref 59, l1, .int (zI q), .int (zI n), .int (zI (k + 1 + 1)), l5', l6'] [] (zM I' A' W) := by
  have hw := hR.1.2.1
  have e1 := hR.2.2.1
  have hF := hL.w
  obtain ⟨z, dn, t⟩ := st
  dsimp only at e7 hV e2 e3 ⊢
  subst e7
  have b1 := dv_b (z := nx z) (n := rW R) (by omega)
  have b2 := dv_b (z := nx (nx z)) (n := 9) (by decide)
  have b3 := dv_b (z := nx (nx (nx z))) (n := 2) (by decide)
  have b4 := dv_b (z := nx (nx (nx (nx z)))) (n := 16) (by decide)
  have d1 := m_draws (I := I) (A := A) (W := W) (d := d) (n := rW R) (by omega) (by omega)
  rw [e2] at d1
  have d2 := m_draws (I := u2 I 59 58 (nx z)) (A := A) (W := W) (d := d) (n := 9) (by omega) (by decide)
  rw [u2_s, u2_u2] at d2
  have d3 := m_draws (I := u2 I 59 58 (nx (nx z))) (A := A) (W := W) (d := d) (n := 2) (by omega) (by decide)
  rw [u2_s, u2_u2] at d3
  have f3 : fi [(59, 58), (59, 59)] I (u2 I 59 58 (nx (nx (nx z)))) := fi.refl.f rfl
  obtain ⟨A1, g1, h1, x1⟩ := m_flicks (I := u2 I 59 58 (nx (nx (nx z)))) (A := A) (W := W) (w := dv (nx z) (rW R)) (p := dv (nx (nx z)) 9 + 1) (h := dv (nx (nx (nx z))) 2) (show 9 ≤ d by omega) (hR.fi f3 rfl) (hL.fi f3 rfl) hV b1.1 b1.2 (by omega)
  have hV1 := hV.fk (F := F) (p := dv (nx (nx z)) 9 + 1) (h := dv (nx (nx (nx z))) 2) hR.1 hF b1.1 b1.2
  have rest : ∀ (c : Int) (l5 l6 : Value), ∃ A', fr [72, 73, 77, 79] A1 A' ∧ A' 77 = (ss1 R F q (k + 1) (z, dn, A 77)).2.2 ∧ q_run qm_X11_seasonGoes (q_call q_MT d) 76 [.ref 59, l1, .int (zI q), .int (zI n), .int (zI (k + 1)), l5, l6] [.int (zI c), .int (zI dn), .ref 59] (zM (u2 I 59 58 (nx (nx (nx z)))) A1 W) = q_run qm_X11_seasonGoes (q_call q_MT d) 17 [.ref 59, l1, .int (zI q), .int (zI n), .int (zI (k + 1 + 1)), l5, l6] [] (zM (u2 (u2 I 59 58 (nx (nx (nx (nx z))))) 59 59 (dn + c)) A' W) := by
    intro c l5 l6
    have d4 := m_draws (I := u2 (u2 I 59 58 (nx (nx (nx z)))) 59 59 (dn + c)) (A := A1) (W := W) (d := d) (n := 16) (by omega) (by decide)
    rw [u2_f (by decide), u2_s] at d4
    have f6 : fi [(59, 58), (59, 59)] I (u2 (u2 (u2 I 59 58 (nx (nx (nx z)))) 59 59 (dn + c)) 59 58 (nx (nx (nx (nx z))))) := ((fi.refl.f rfl).f rfl).f rfl
    have eI : u2 (u2 (u2 I 59 58 (nx (nx (nx z)))) 59 59 (dn + c)) 59 58 (nx (nx (nx (nx z)))) = u2 (u2 I 59 58 (nx (nx (nx (nx z))))) 59 59 (dn + c) := by
      funext c' f'
      by_cases ec : c' = 59
      · subst ec
        by_cases ef : f' = 58
        · subst ef; rw [u2_s, u2_f (by decide), u2_s]
        · rw [u2_f ef]
          by_cases eg : f' = 59
          · subst eg; rw [u2_s, u2_s]
          · rw [u2_f eg, u2_f eg, u2_f ef, u2_f ef]
      · rw [u2_c ec, u2_c ec, u2_c ec, u2_c ec, u2_c ec]
    rw [eI] at d4 f6
    have hR6 := (hR.fi f6 rfl).fr g1 rfl
    have sh : ∃ A2, fr [72, 73, 77, 79] A1 A2 ∧ A2 77 = (if dv (nx (nx (nx (nx z)))) 16 < q then shk R (A1 77) else A1 77) ∧ q_run qm_X11_seasonGoes (q_call q_MT d) 76 [.ref 59, l1, .int (zI q), .int (zI n), .int (zI (k + 1)), l5, l6] [.int (zI c), .int (zI dn), .ref 59] (zM (u2 I 59 58 (nx (nx (nx z)))) A1 W) = q_run qm_X11_seasonGoes (q_call q_MT d) 95 [.ref 59, l1, .int (zI q), .int (zI n), .int (zI (k + 1)), l5, l6] [] (zM (u2 (u2 I 59 58 (nx (nx (nx (nx z))))) 59 59 (dn + c)) A2 W) := by
      rw [k_X11_seasonGoes_76]
      by_cases q1 : dv (nx (nx (nx (nx z)))) 16 < q
      · rw [if_pos q1]
        obtain ⟨A2, g2, h2, x2⟩ := m_shakes (W := W) (show 5 ≤ d by omega) hR6 (by rw [h1]; exact hV1)
        refine ⟨A2, g2.wd rfl, h2, ?_⟩
        simp (implicitDefEqProofs := false) (disch := omega) only [↓rI_s, ↓rV_s, ↓rI_e, ↓rV_e, zc_eq, zc_ne, zc_lt, zc_ge, zc_gt, zc_le, zlt_t, zlt_f, zle_t, zle_f, zeq_t, zeq_f, lz, zadd, zsub, zmul, zneg, zb_e0, zb_e1, boo0, boo1, ua_s, ua_n, ua_ua, up_s, u2_s, u2_f, u2_c, u2_u2, Int.natCast_add, Int.zero_add, Int.add_zero, ↓reduceIte, ne_eq, not_true_eq_false, not_false_eq_true, Int.natCast_one, ↓zp_59_59, ↓mc_59, d4, x2]
      · rw [if_neg q1]
        refine ⟨A1, fr.refl, rfl, ?_⟩
        simp (implicitDefEqProofs := false) (disch := omega) only [↓rI_s, ↓rV_s, ↓rI_e, ↓rV_e, zc_eq, zc_ne, zc_lt, zc_ge, zc_gt, zc_le, zlt_t, zlt_f, zle_t, zle_f, zeq_t, zeq_f, lz, zadd, zsub, zmul, zneg, zb_e0, zb_e1, boo0, boo1, ua_s, ua_n, ua_ua, up_s, u2_s, u2_f, u2_c, u2_u2, Int.natCast_add, Int.zero_add, Int.add_zero, ↓reduceIte, ne_eq, not_true_eq_false, not_false_eq_true, Int.natCast_one, ↓zp_59_59, ↓mc_59, d4]
    obtain ⟨A2, g2, h2, x2⟩ := sh
    have hV2 : sV R (A2 77) := by
      rw [h2, h1]
      split
      · exact hV1.sh hR.1
      · exact hV1
    rw [x2, k_X11_seasonGoes_95]
    unfold ss1
    dsimp only
    rw [← h1, ← h2]
    by_cases q2 : ((k : Int) + 1) - ((k : Int) + 1) / 4 * 4 = 0
    · rw [if_pos q2]
      have x3 := m_passes (W := W) (show 3 ≤ d by omega) (hR6.fr g2 rfl) hV2
      refine ⟨ua A2 77 (pas R (A2 77)), g2.a rfl, ua_s, ?_⟩
      simp (implicitDefEqProofs := false) (disch := omega) only [↓rI_s, ↓rV_s, ↓rI_e, ↓rV_e, zc_eq, zc_ne, zc_lt, zc_ge, zc_gt, zc_le, zlt_t, zlt_f, zle_t, zle_f, zeq_t, zeq_f, lz, zadd, zsub, zmul, zneg, zb_e0, zb_e1, boo0, boo1, ua_s, ua_n, ua_ua, up_s, u2_s, u2_f, u2_c, u2_u2, Int.natCast_add, Int.zero_add, Int.add_zero, ↓reduceIte, ne_eq, not_true_eq_false, not_false_eq_true, Int.natCast_one, zdiv, ↓mc_59, x3, ↓k_X11_seasonGoes_106]
    · rw [if_neg q2]
      refine ⟨A2, g2, rfl, ?_⟩
      simp (implicitDefEqProofs := false) (disch := omega) only [↓rI_s, ↓rV_s, ↓rI_e, ↓rV_e, zc_eq, zc_ne, zc_lt, zc_ge, zc_gt, zc_le, zlt_t, zlt_f, zle_t, zle_f, zeq_t, zeq_f, lz, zadd, zsub, zmul, zneg, zb_e0, zb_e1, boo0, boo1, ua_s, ua_n, ua_ua, up_s, u2_s, u2_f, u2_c, u2_u2, Int.natCast_add, Int.zero_add, Int.add_zero, ↓reduceIte, ne_eq, not_true_eq_false, not_false_eq_true, Int.natCast_one, zdiv, ↓k_X11_seasonGoes_106]
  by_cases q3 : canF R (A 77) (dv (nx z) (rW R))
  · rw [zb_t q3] at x1
    obtain ⟨A', g8, h8, x8⟩ := rest 1 (.int (zI (dv (nx z) (rW R)))) (.int (zI (dv (nx (nx z)) 9 + 1)))
    refine ⟨u2 (u2 I 59 58 (nx (nx (nx (nx z))))) 59 59 (dn + 1), A', .int (zI (dv (nx z) (rW R))), .int (zI (dv (nx (nx z)) 9 + 1)), (fi.refl.f rfl).f rfl, (g1.wd rfl).tr g8, h8, by rw [u2_f (by decide), u2_s]; rfl, ?_, ?_⟩
    · rw [u2_s]
      show dn + 1 = dn + zb _
      rw [zb_t q3]
    · rw [k_X11_seasonGoes_17]
      simp (implicitDefEqProofs := false) (disch := omega) only [↓rI_s, ↓rV_s, ↓rI_e, ↓rV_e, zc_eq, zc_ne, zc_lt, zc_ge, zc_gt, zc_le, zlt_t, zlt_f, zle_t, zle_f, zeq_t, zeq_f, lz, zadd, zsub, zmul, zneg, zb_e0, zb_e1, boo0, boo1, ua_s, ua_n, ua_ua, up_s, u2_s, u2_f, u2_c, u2_u2, Int.natCast_add, Int.zero_add, Int.add_zero, ↓reduceIte, ne_eq, not_true_eq_false, not_false_eq_true, Int.natCast_one, ↓zg_59_22, e1, ↓mc_59, d1, d2, d3, ↓zg_59_59, e3, x1]
      exact x8
  · rw [zb_f q3] at x1
    obtain ⟨A', g8, h8, x8⟩ := rest 0 (.int (zI (dv (nx z) (rW R)))) (.int (zI (dv (nx (nx z)) 9 + 1)))
    refine ⟨u2 (u2 I 59 58 (nx (nx (nx (nx z))))) 59 59 (dn + 0), A', .int (zI (dv (nx z) (rW R))), .int (zI (dv (nx (nx z)) 9 + 1)), (fi.refl.f rfl).f rfl, (g1.wd rfl).tr g8, h8, by rw [u2_f (by decide), u2_s]; rfl, ?_, ?_⟩
    · rw [u2_s]
      show dn + 0 = dn + zb _
      rw [zb_f q3]
    · rw [k_X11_seasonGoes_17]
      simp (implicitDefEqProofs := false) (disch := omega) only [↓rI_s, ↓rV_s, ↓rI_e, ↓rV_e, zc_eq, zc_ne, zc_lt, zc_ge, zc_gt, zc_le, zlt_t, zlt_f, zle_t, zle_f, zeq_t, zeq_f, lz, zadd, zsub, zmul, zneg, zb_e0, zb_e1, boo0, boo1, ua_s, ua_n, ua_ua, up_s, u2_s, u2_f, u2_c, u2_u2, Int.natCast_add, Int.zero_add, Int.add_zero, ↓reduceIte, ne_eq, not_true_eq_false, not_false_eq_true, Int.natCast_one, ↓zg_59_22, e1, ↓mc_59, d1, d2, d3, ↓zg_59_59, e3, x1]
      rw [Int.add_zero] at x8
      exact x8
theorem m_seasonGoes {q n z : Int} (hd : 10 ≤ d) (hR : mR R I A) (hL : mL F I A) (hV : sV R (cpy 47 (A 76) (A 77))) (hq : 0 ≤ q ∧ q ≤ 16) (hn : 1 ≤ n ∧ n ≤ 96) : ∃ I' A', fi [(59, 58), (59, 59)] I I' ∧ fr [72, 73, 77, 79] A A' ∧ A' 77 = (ssn R F q z n (cpy 47 (A 76) (A 77))).2.2 ∧ I' 59 59 = (ssn R F q z n (cpy 47 (A 76) (A 77))).2.1 ∧ q_call q_MT d 270 [.ref 59, .int (zI z), .int (zI q), .int (zI n)] (zM I A W) = some (.inl none, zM I' A' W) := by
  obtain ⟨d, rfl⟩ : ∃ e, d = e + 1 := ⟨d - 1, by omega⟩
  have e1 := hR.2.2.1
  have hw := hR.1.2.1
  generalize hs : cpy 47 (A 76) (A 77) = s at hV ⊢
  have f0 : fi [(59, 58), (59, 59)] I (u2 (u2 I 59 58 z) 59 59 0) := (fi.refl.f rfl).f rfl
  have g0 : fr [72, 73, 77, 79] A (ua A 77 s) := fr.refl.a rfl
  rw [cl_X11_seasonGoes]
  unfold ssn
  by_cases q0 : rW R = 0
  · rw [if_pos q0]
    refine ⟨_, _, f0, g0, ua_s, u2_s, ?_⟩
    simp (implicitDefEqProofs := false) (disch := omega) only [↓rI_s, ↓rV_s, ↓rI_e, ↓rV_e, zc_eq, zc_ne, zc_lt, zc_ge, zc_gt, zc_le, zlt_t, zlt_f, zle_t, zle_f, zeq_t, zeq_f, lz, zadd, zsub, zmul, zneg, zb_e0, zb_e1, boo0, boo1, ua_s, ua_n, ua_ua, up_s, u2_s, u2_f, u2_c, u2_u2, Int.natCast_add, Int.zero_add, Int.add_zero, ↓reduceIte, ne_eq, not_true_eq_false, not_false_eq_true, Int.natCast_one, ↓k_X11_seasonGoes_0, ↓mc_59, m_take (show 2 ≤ d by omega), hs, ↓zp_59_58, ↓zp_59_59]
    rw [k_X11_seasonGoes_17]
    simp (implicitDefEqProofs := false) (disch := omega) only [↓rI_s, ↓rV_s, ↓rI_e, ↓rV_e, zc_eq, zc_ne, zc_lt, zc_ge, zc_gt, zc_le, zlt_t, zlt_f, zle_t, zle_f, zeq_t, zeq_f, lz, zadd, zsub, zmul, zneg, zb_e0, zb_e1, boo0, boo1, ua_s, ua_n, ua_ua, up_s, u2_s, u2_f, u2_c, u2_u2, Int.natCast_add, Int.zero_add, Int.add_zero, ↓reduceIte, ne_eq, not_true_eq_false, not_false_eq_true, Int.natCast_one, ↓zg_59_22, e1, ↓k_X11_seasonGoes_112]
  · rw [if_neg q0]
    simp (implicitDefEqProofs := false) (disch := omega) only [↓rI_s, ↓rV_s, ↓rI_e, ↓rV_e, zc_eq, zc_ne, zc_lt, zc_ge, zc_gt, zc_le, zlt_t, zlt_f, zle_t, zle_f, zeq_t, zeq_f, lz, zadd, zsub, zmul, zneg, zb_e0, zb_e1, boo0, boo1, ua_s, ua_n, ua_ua, up_s, u2_s, u2_f, u2_c, u2_u2, Int.natCast_add, Int.zero_add, Int.add_zero, ↓reduceIte, ne_eq, not_true_eq_false, not_false_eq_true, Int.natCast_one, ↓k_X11_seasonGoes_0, ↓mc_59, m_take (show 2 ≤ d by omega), hs, ↓zp_59_58, ↓zp_59_59]
    refine lp_x (fun j (M : (Nat → Nat → Int) × (Nat → Int → Int) × Value × Value) => q_run qm_X11_seasonGoes (q_call q_MT d) 17 [.ref 59, .int (zI z), .int (zI q), .int (zI n), .int (zI (j + 1)), M.2.2.1, M.2.2.2] [] (zM M.1 M.2.1 W)) (fun j M => fi [(59, 58), (59, 59)] I M.1 ∧ fr [72, 73, 77, 79] A M.2.1 ∧ M.2.1 77 = (ssN R F q (z, 0, s) j).2.2 ∧ M.1 59 58 = (ssN R F q (z, 0, s) j).1 ∧ M.1 59 59 = (ssN R F q (z, 0, s) j).2.1) (fun r => ∃ I' A', fi [(59, 58), (59, 59)] I I' ∧ fr [72, 73, 77, 79] A A' ∧ A' 77 = (ssN R F q (z, 0, s) n.toNat).2.2 ∧ I' 59 59 = (ssN R F q (z, 0, s) n.toNat).2.1 ∧ r = some (.inl none, zM I' A' W)) n.toNat ?_ ?_ 0 (u2 (u2 I 59 58 z) 59 59 0, ua A 77 s, q_junk, q_junk) (by omega) ⟨f0, g0, rfl, rfl, rfl⟩
    · rintro ⟨I1, A1, l5, l6⟩ ⟨f, g, h, y2, y3⟩
      refine ⟨I1, A1, f, g, h, y3, ?_⟩
      dsimp only
      rw [k_X11_seasonGoes_17]
      simp (implicitDefEqProofs := false) (disch := omega) only [↓rI_s, ↓rV_s, ↓rI_e, ↓rV_e, zc_eq, zc_ne, zc_lt, zc_ge, zc_gt, zc_le, zlt_t, zlt_f, zle_t, zle_f, zeq_t, zeq_f, lz, zadd, zsub, zmul, zneg, zb_e0, zb_e1, boo0, boo1, ua_s, ua_n, ua_ua, up_s, u2_s, u2_f, u2_c, u2_u2, Int.natCast_add, Int.zero_add, Int.add_zero, ↓reduceIte, ne_eq, not_true_eq_false, not_false_eq_true, Int.natCast_one, ↓k_X11_seasonGoes_112]
    · rintro j ⟨I1, A1, l5, l6⟩ hj ⟨f, g, h, y2, y3⟩
      dsimp only at f g h y2 y3 ⊢
      obtain ⟨I2, A2, m5, m6, f2, g2, h2, z2, z3, x⟩ := m_goes1 (l1 := .int (zI z)) (l5 := l5) (l6 := l6) (q := q) (n := n) (k := j) (W := W) (F := F) (show 9 ≤ d by omega) ((hR.fi f rfl).fr g rfl) ((hL.fi f rfl).fr g rfl) h (ssN_V hR.1 hL.w (by omega) hV j) (by omega) hq (by omega) (by omega) y2 y3
      exact .inr ⟨(I2, A2, m5, m6), ⟨f.tr f2, g.tr g2, h2, z2, z3⟩, x⟩
end SE
