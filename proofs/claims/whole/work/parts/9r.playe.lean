--DEPS 9q.playd
section PE
variable {d : Nat} {I I' : Nat → Nat → Int} {A : Nat → Int → Int} {W : qWt} {T : Int → Int} {n a w : Int} {p : zPg} {R : zR} {F : zF} {s : Int → Int} {l : zL}
theorem plA_r {q : zPg} {e : Int} (h0 : 0 ≤ n) (hn : n ≤ 150) (hw : w = rW R) (h : plA T n w = .inr (e, q)) : q.1 ≤ 37 ∧ ∃ k, wfP R q.2.1 q.2.2.1 q.2.2.2 k 6 0 q.1 := by
  have ih := qRw_ok (z := false) (qSs_ok (T := T) (qv_ok (T := T) (R := R) hn hw 6)) 151 0 (0, fun _ => 0, fun _ => 0, fun _ => 0) (by omega) h0 (by decide) (by omega)
  obtain ⟨s1, s2, s3, s4⟩ := ih.2 _ _ h
  exact ⟨by omega, s4.2.2⟩
theorem plA_l {k q : Int} (h0 : 0 ≤ n) (hn : n ≤ 150) (hw : w = rW R) (h : plA T n w = .inl (k, q)) : 0 ≤ q ∧ q ≤ n := by
  have ih := qRw_ok (z := false) (qSs_ok (T := T) (qv_ok (T := T) (R := R) hn hw 6)) 151 0 (0, fun _ => 0, fun _ => 0, fun _ => 0) (by omega) h0 (by decide) (by omega)
  exact ih.1 _ _ h
abbrev plSt (R : zR) (F : zF) (q : zPg) (s : Int → Int) : zS := rn R F q.2.1 q.2.2.1 q.2.2.2 6 0 q.1 (0, 0, 0, s)
abbrev plK : List (Nat × Nat) := [(2, 15), (3, 1), (3, 2), (3, 3), (3, 4), (3, 5), (3, 6), (3, 7), (24, 7), (24, 8), (41, 3), (41, 4), (41, 5), (41, 6), (41, 7)]
abbrev plL : List Nat := [22, 23, 25, 26, 27, 28, 29, 42, 43, 44]
theorem C_play (hd : 90 ≤ d) (h : tpC T I A) (hn : wI n) (hX : cX R F s I A) (hC : kC R (dyn W) W.1 l) (hl : l.length ≤ 16) : if 0 ≤ n ∧ n ≤ 150 ∧ n ≤ I 3 1 then (if l.length = 16 then ∃ I', fi oK I I' ∧ I' 3 1 = 0 ∧ I' 3 7 = -1 ∧ q_call q_MT d 116 [.ref 2, .int (zI n)] (zM I A W) = some (.inl (some (.int (zI (-20)))), zM I' A W) else match plA T n (rW R) with
    | .inl (k, p) => ∃ I' A', fi ((41, 3) :: (41, 4) :: oK) I I' ∧ fr pLc A A' ∧ I' 3 1 = 0 ∧ I' 3 7 = p ∧ q_call q_MT d 116 [.ref 2, .int (zI n)] (zM I A W) = some (.inl (some (.int (zI (k - 10)))), zM I' A' W)
    | .inr (_, q) => ∃ I' A' x y g, fi plK I I' ∧ fr plL A A' ∧ I' 3 1 = 0 ∧ I' 3 7 = -1 ∧ I' 2 15 = (plSt R F q s).2.2.1 ∧ cX R F (plSt R F q s).2.2.2 I' A' ∧ kC R (dyn W ++ [kepE x W.1 y, rowE g]) (.ref (90 + (dyn W).length)) (s :: l) ∧ q_call q_MT d 116 [.ref 2, .int (zI n)] (zM I A W) = some (.inl (some (.int (zI (plSt R F q s).2.1))), zM I' A' (.ref (90 + (dyn W).length), (dW W (dyn W ++ [kepE x W.1 y, rowE g])).2))) else q_call q_MT d 116 [.ref 2, .int (zI n)] (zM I A W) = qIl I A W := by
  obtain ⟨d, rfl⟩ : ∃ e, d = e + 1 := ⟨d - 1, by omega⟩
  obtain ⟨d, rfl⟩ : ∃ e, d = e + 1 := ⟨d - 1, by omega⟩
  obtain ⟨hR, hB, hs, hL⟩ := hX
  have h10 := hR.1.2.1
  rw [cl_X10_play, k_X10_play_0]
  split
  · rename_i q
    obtain ⟨I1, x1, x2, x3, x4, x5⟩ := c_openText (W := W) (d := d + 1) (m := 150) (by omega) h q (by omega)
    have ec := c_playCount (d := d + 1) (I := I1) (A := A) (W := W) (R := R) (by omega) hC
    split
    · rename_i q16
      refine ⟨I1, x1, x3, x4, ?_⟩
      simp (implicitDefEqProofs := false) (disch := omega) only [↓rI_s, ↓rV_s, ↓rI_e, ↓rV_e, zc_eq, zc_ne, zc_lt, zc_ge, zc_gt, zc_le, zlt_t, zlt_f, zle_t, zle_f, zeq_t, zeq_f, lz, zadd, zsub, zmul, zneg, zb_e0, zb_e1, boo0, boo1, ua_s, ua_n, ua_ua, up_s, u2_s, u2_f, u2_c, u2_u2, Int.natCast_add, Int.zero_add, Int.add_zero, ↓reduceIte, ne_eq, not_true_eq_false, not_false_eq_true, Int.natCast_one, ↓mc_2, ↓cV x5, ↓cI ec]
    · rename_i q16
      have hR1 := hR.fi x1 rfl
      have w1 := hR1.2.2.1
      have f1 : fi [(41, 3), (41, 4)] I1 (u2 (u2 I1 41 3 0) 41 4 (rW R)) := (fi.refl.f rfl).f rfl
      have t2 : cTx T n 0 (u2 (u2 I1 41 3 0) 41 4 (rW R)) A := x2.fi f1 rfl
      have hQ : cQ (rW R) (0, fun _ => 0, fun _ => 0, fun _ => 0) (u2 (u2 I1 41 3 0) 41 4 (rW R)) A := ⟨by rw [u2_f (by decide), u2_s]; rfl, u2_s, fun j hj => absurd hj (by omega)⟩
      have fb : fi ((41, 3) :: (41, 4) :: oK) I (u2 (u2 I1 41 3 0) 41 4 (rW R)) := (x1.wd rfl).tr (f1.wd rfl)
      generalize hI2 : u2 (u2 I1 41 3 0) 41 4 (rW R) = I2 at f1 t2 hQ fb
      have top := c_rowS (W := W) (R := R) (o := 0) (z := false) q.2.1 (by omega) (by decide) (qv_ok (T := T) (R := R) q.2.1 rfl 6) (c_qv (W := W) (T := T) (R := R) q.2.1 rfl (by omega) 6 (by omega)) d 0 (0, fun _ => 0, fun _ => 0, fun _ => 0) I2 A (by omega) t2 hQ (by decide)
      have tp : qRw T n false (qv T n (rW R) 6) 151 0 (0, fun _ => 0, fun _ => 0, fun _ => 0) = plA T n (rW R) := rfl
      rw [tp] at top
      rcases q2 : plA T n (rW R) with ⟨k, pp⟩ | ⟨a2, qq⟩
      · rw [q2] at top
        obtain ⟨I3, A3, y1, y2, y3, y4, y5⟩ := top
        have ea := c_answer (d := d + 1) (I := I3) (A := A3) (W := W) (by omega)
        have e3 : q_call q_MT (d + 1) 91 [.ref 41, .ref 3, .int (zI (rW R))] (zM I1 A W) = some (.inl (some (.int (zI 0))), zM I3 A3 W) := by
          rw [cl_X8_readFrom]
          simp (implicitDefEqProofs := false) (disch := omega) only [↓rI_s, ↓rV_s, ↓rI_e, ↓rV_e, zc_eq, zc_ne, zc_lt, zc_ge, zc_gt, zc_le, zlt_t, zlt_f, zle_t, zle_f, zeq_t, zeq_f, lz, zadd, zsub, zmul, zneg, zb_e0, zb_e1, boo0, boo1, ua_s, ua_n, ua_ua, up_s, u2_s, u2_f, u2_c, u2_u2, Int.natCast_add, Int.zero_add, Int.add_zero, ↓reduceIte, ne_eq, not_true_eq_false, not_false_eq_true, Int.natCast_one, ↓k_X8_readFrom_0, ↓zp_41_3, ↓zp_41_4, hI2, ↓mc_41, ↓cI y5]
        refine ⟨I3, A3, fb.tr (y1.wd rfl), y2, (y1 3 1 rfl).trans ((f1 3 1 rfl).trans x3), y4, ?_⟩
        simp (implicitDefEqProofs := false) (disch := omega) only [↓rI_s, ↓rV_s, ↓rI_e, ↓rV_e, zc_eq, zc_ne, zc_lt, zc_ge, zc_gt, zc_le, zlt_t, zlt_f, zle_t, zle_f, zeq_t, zeq_f, lz, zadd, zsub, zmul, zneg, zb_e0, zb_e1, boo0, boo1, ua_s, ua_n, ua_ua, up_s, u2_s, u2_f, u2_c, u2_u2, Int.natCast_add, Int.zero_add, Int.add_zero, ↓reduceIte, ne_eq, not_true_eq_false, not_false_eq_true, Int.natCast_one, ↓mc_2, ↓cV x5, ↓cI ec, ↓zg_2_5, ↓zg_2_0, ↓zg_2_1, ↓zg_5_1, w1, ↓mc_41, ↓cI e3, ↓mc_3, ↓cI ea, y3]
      · rw [q2] at top
        obtain ⟨r1, kk, r2⟩ := plA_r (R := R) q.1 q.2.1 rfl q2
        obtain ⟨I3, A3, y1, y2, y3, y4, y5, y6⟩ := top
        have e3 : q_call q_MT (d + 1) 91 [.ref 41, .ref 3, .int (zI (rW R))] (zM I1 A W) = some (.inl (some (.int (zI 1))), zM I3 A3 W) := by
          rw [cl_X8_readFrom]
          simp (implicitDefEqProofs := false) (disch := omega) only [↓rI_s, ↓rV_s, ↓rI_e, ↓rV_e, zc_eq, zc_ne, zc_lt, zc_ge, zc_gt, zc_le, zlt_t, zlt_f, zle_t, zle_f, zeq_t, zeq_f, lz, zadd, zsub, zmul, zneg, zb_e0, zb_e1, boo0, boo1, ua_s, ua_n, ua_ua, up_s, u2_s, u2_f, u2_c, u2_u2, Int.natCast_add, Int.zero_add, Int.add_zero, ↓reduceIte, ne_eq, not_true_eq_false, not_false_eq_true, Int.natCast_one, ↓k_X8_readFrom_0, ↓zp_41_3, ↓zp_41_4, hI2, ↓mc_41, ↓cI y6]
        have fJ : fi ((41, 3) :: (41, 4) :: oK) I I3 := fb.tr (y1.wd rfl)
        have hR3 : cR R I3 A3 := (hR.fi fJ rfl).fr y2 rfl
        have hL3 : cL F I3 A3 := (hL.fi fJ rfl).fr y2 rfl
        have hB3 : bR R s (A3 25) (A3 26) (A3 27) (A3 28) (A3 29) (I3 24 7) (I3 24 8) := by
          rw [y2 25 rfl, y2 26 rfl, y2 27 rfl, y2 28 rfl, y2 29 rfl, fJ 24 7 rfl, fJ 24 8 rfl]
          exact hB
        have ek := c_keepNow (d := d + 1) (I := I3) (A := A3) (by omega) hC
        have hk := hC.kp (s := s) (svR_k (g := fun _ => 0) hR3.1 hB3) hs
        obtain ⟨I4, A4, z1, z2, z3, z4⟩ := c_run (d := d + 1) (W := (.ref (90 + (dyn W).length), (dW W (dyn W ++ [kepE (90 + ((dyn W).length + 1)) W.1 ((l.length : Int) + 1), rowE (svR (A3 25) (A3 26) (A3 27) (A3 28) (fun _ => 0) (I3 24 7) (I3 24 8))])).2)) (N := qq.1) (by omega) (by omega) (by omega) r2 hR3 hB3 hs hL3 (fun j j0 j1 => by
          have := y5.2.2 j.toNat (by omega)
          rw [Int.toNat_of_nonneg j0] at this
          exact this) y5.1
        have i7 : I4 41 7 = (plSt R F qq s).2.2.1 := z3.2.2.2.2.2.2.2.1
        have i6 : I4 41 6 = (plSt R F qq s).2.1 := z3.2.2.2.2.2.2.1
        have f15 : fi [(2, 15)] I4 (u2 I4 2 15 (plSt R F qq s).2.2.1) := fi.refl.f rfl
        refine ⟨u2 I4 2 15 (plSt R F qq s).2.2.1, A4, _, _, _, (((fJ.wd rfl).tr (z1.wd rfl)).f rfl), ((y2.wd rfl).tr (z2.wd rfl)), ?_, ?_, u2_s, ⟨z3.1.fi f15 rfl, z3.2.1, z3.2.2.1, z3.2.2.2.1.fi f15 rfl⟩, hk, ?_⟩
        · exact (u2_c (by decide)).trans ((z1 3 1 rfl).trans ((y1 3 1 rfl).trans ((f1 3 1 rfl).trans x3)))
        · exact (u2_c (by decide)).trans ((z1 3 7 rfl).trans (y4.trans ((f1 3 7 rfl).trans x4)))
        · have rR : ∀ {a : Nat} {h : qH} {k : Value → qH → qR}, q_rR (some (.inl (some (.ref a)), h)) q_t0 k = k (.ref a) h := fun {a h k} => rfl
          simp (implicitDefEqProofs := false) (disch := omega) only [↓rI_s, ↓rV_s, ↓rI_e, ↓rV_e, zc_eq, zc_ne, zc_lt, zc_ge, zc_gt, zc_le, zlt_t, zlt_f, zle_t, zle_f, zeq_t, zeq_f, lz, zadd, zsub, zmul, zneg, zb_e0, zb_e1, boo0, boo1, ua_s, ua_n, ua_ua, up_s, u2_s, u2_f, u2_c, u2_u2, Int.natCast_add, Int.zero_add, Int.add_zero, ↓reduceIte, ne_eq, not_true_eq_false, not_false_eq_true, Int.natCast_one, ↓mc_2, ↓cV x5, ↓cI ec, ↓zg_2_5, ↓zg_2_0, ↓zg_2_1, ↓zg_5_1, w1, ↓mc_41, ↓cI e3, ek, ↓rR, ↓zd_13p, ↓zg_2_6, ↓cV z4, ↓zg_41_7, i7, ↓zp_2_15, ↓zg_41_6, i6]
  · rename_i q
    have e := c_openText_f (W := W) (d := d + 1) (m := 150) (by omega) h q (by omega) hn
    simp (implicitDefEqProofs := false) (disch := omega) only [↓rI_s, ↓rV_s, ↓rI_e, ↓rV_e, zc_eq, zc_ne, zc_lt, zc_ge, zc_gt, zc_le, zlt_t, zlt_f, zle_t, zle_f, zeq_t, zeq_f, lz, zadd, zsub, zmul, zneg, zb_e0, zb_e1, boo0, boo1, ua_s, ua_n, ua_ua, up_s, u2_s, u2_f, u2_c, u2_u2, Int.natCast_add, Int.zero_add, Int.add_zero, ↓reduceIte, ne_eq, not_true_eq_false, not_false_eq_true, Int.natCast_one, ↓mc_2, e, t0_1]
end PE
