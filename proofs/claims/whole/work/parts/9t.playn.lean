--DEPS 9s.playm
section PN
variable {d : Nat} {I I' : Nat → Nat → Int} {A : Nat → Int → Int} {W : qWt} {T : Int → Int} {n a w : Int} {p : zPg} {R : zR}
/-- again, behind its word -/
theorem m_again {lev l dm : Nat} {o : Int} {l1 : Value} (hn : n ≤ 150) (ho : 0 ≤ o ∧ o < 6) (hS : qOK R n lev 3 (qv T n w l)) (hin : mRq W T n w (o + 1) dm (qv T n w l)) (hd : dm + 4 ≤ d) (h : mTx T n a I A) (hb5 : I 59 5 = -1) (h7 : I 59 7 = o) (h22 : I 59 22 = w) (hQ : mQ p I A) (hpa : 4 * (p.1 : Int) ≤ a) (h5 : a + 5 ≤ n) : ∀ r, (q_rcv (zM I A W) (.ref 59) 11 (q_rV (q_call q_MT d 191 [.ref 59, .int (zI 5)] (zM I A W)) q_t0 fun h18 => q_rcv h18 (.ref 59) 11 (q_rI (q_call q_MT d 176 [.ref 59, .int (zI 0), .int (zI 30)] h18) q_t0 fun x21 h20 => q_rcv h20 (.ref 59) 11 (q_rV (q_call q_MT d 177 [.ref 59, .int (zI 91)] h20) q_t0 fun h22 => q_gI h22 (.ref 59) 11 36 fun x24 => q_rcv h22 (.ref 59) 11 (q_rV (q_call q_MT d 201 [.ref 59, .int (zI 5), .int x21, .int (zI 0)] h22) q_t0 fun h25 => q_run qm_X11_readStep (q_call q_MT d) 190 [.ref 59, l1, .int x21, .int x24] [] h25))))) = r → mE T n pKm [74] I A W r (fun p' I' A' => mQ p' I' A' ∧ I' 59 7 = o) (qSs T n (fun _ p => qAg T n (qRw T n true (qv T n w l) 151) (a + 5) p) a p) := by
  rintro r rfl
  have ha0 := h.2.2.2.2.1
  have hn6 := h.2.2.2.2.2.2
  have eo := m_opens (A := A) (W := W) (d := d) (y := 5) (by omega) hb5 h.2.2.2.1 h7 ho
  have f0 : fi aK I (u2 (u2 I 59 4 (a + 5)) 59 7 (o + 1)) := (fi.refl.f rfl).f rfl
  have h0 : mTx T n (a + 5) (u2 (u2 I 59 4 (a + 5)) 59 7 (o + 1)) A := h.u (by rw [u2_f (by decide), u2_f (by decide)]) (by rw [u2_f (by decide), u2_s]) (by omega) (by omega)
  have b0 : u2 (u2 I 59 4 (a + 5)) 59 7 (o + 1) 59 5 = -1 := by rw [u2_f (by decide), u2_f (by decide)]; exact hb5
  have g0 : u2 (u2 I 59 4 (a + 5)) 59 7 (o + 1) 59 7 = o + 1 := u2_s
  have k0 : u2 (u2 I 59 4 (a + 5)) 59 7 (o + 1) 59 22 = w := by rw [u2_f (by decide), u2_f (by decide)]; exact h22
  generalize u2 (u2 I 59 4 (a + 5)) 59 7 (o + 1) = I0 at eo f0 h0 b0 g0 k0
  have fc : fi pKm I I0 := f0.wd rfl
  have hQ0 := hQ.k f0
  have e1 := m_readNumber (lo := 0) (hi := 30) (W := W) (d := d) (by omega) h0 b0 (by omega) (by omega)
  -- behind a fault
  have tail : ∀ (J : Nat → Nat → Int) (B : Nat → Int → Int) (l2 : Value) (l3 : Int32), J 59 5 ≠ -1 → wI (J 59 5) → q_run qm_X11_readStep (q_call q_MT d) 213 [.ref 59, l1, l2, .int l3] [] (zM J B W) = some (.inl none, zM (u2 J 59 7 (J 59 7 - 1)) B W) := by
    intro J B l2 l3 n5 w5
    have s93 := m_sign_b (I := J) (A := B) (W := W) (d := d) (c := 93) (by omega) n5 w5
    have n6 : u2 J 59 7 (J 59 7 - 1) 59 5 ≠ -1 := by rw [u2_f (by decide)]; exact n5
    have w6 : wI (u2 J 59 7 (J 59 7 - 1) 59 5) := by rw [u2_f (by decide)]; exact w5
    have f3 := m_fine (I := u2 J 59 7 (J 59 7 - 1)) (A := B) (W := W) (d := d) (by omega) w6
    rw [zb_f n6] at f3
    have fb := fun (a b c : Value) => m_fin_b (I := u2 J 59 7 (J 59 7 - 1)) (A := B) (W := W) (d := d) (l1 := a) (l2 := b) (l3 := c) (by omega) n6 w6
    rw [k_X11_readStep_213]
    simp (implicitDefEqProofs := false) (disch := omega) only [↓rI_s, ↓rV_s, ↓rI_e, ↓rV_e, zc_eq, zc_ne, zc_lt, zc_ge, zc_gt, zc_le, zlt_t, zlt_f, zle_t, zle_f, zeq_t, zeq_f, lz, zadd, zsub, zmul, zneg, zb_e0, zb_e1, boo0, boo1, ua_s, ua_n, ua_ua, up_s, u2_s, u2_f, u2_c, u2_u2, Int.natCast_add, Int.zero_add, Int.add_zero, ↓reduceIte, ne_eq, not_true_eq_false, not_false_eq_true, Int.natCast_one, ↓mc_59, ↓cV s93, ↓zg_59_7, ↓zp_59_7, ↓cI f3, ↓k_X11_readStep_248, fb]
  have tail190 : ∀ (J : Nat → Nat → Int) (B : Nat → Int → Int) (l2 : Value) (l3 : Int32), J 59 5 ≠ -1 → wI (J 59 5) → q_run qm_X11_readStep (q_call q_MT d) 190 [.ref 59, l1, l2, .int l3] [] (zM J B W) = some (.inl none, zM (u2 J 59 7 (J 59 7 - 1)) B W) := by
    intro J B l2 l3 n5 w5
    have f3 := m_fine (I := J) (A := B) (W := W) (d := d) (by omega) w5
    rw [zb_f n5] at f3
    have t := tail J B l2 l3 n5 w5
    rw [k_X11_readStep_190]
    simp (implicitDefEqProofs := false) (disch := omega) only [↓rI_s, ↓rV_s, ↓rI_e, ↓rV_e, zc_eq, zc_ne, zc_lt, zc_ge, zc_gt, zc_le, zlt_t, zlt_f, zle_t, zle_f, zeq_t, zeq_f, lz, zadd, zsub, zmul, zneg, zb_e0, zb_e1, boo0, boo1, ua_s, ua_n, ua_ua, up_s, u2_s, u2_f, u2_c, u2_u2, Int.natCast_add, Int.zero_add, Int.add_zero, ↓reduceIte, ne_eq, not_true_eq_false, not_false_eq_true, Int.natCast_one, ↓mc_59, ↓cI f3, t]
  unfold qSs qAg
  dsimp only
  rcases q1 : numS T n 0 30 (a + 5) with ⟨k, q⟩ | ⟨e, v⟩
  · rw [q1] at e1
    have r1 := numS_l h5 q1
    obtain ⟨I1, a1, x1, x2, x3, x4, x5⟩ := e1
    have w5 : wI (I1 59 5) := by rw [x4]; omega
    have n5 : I1 59 5 ≠ -1 := by rw [x4]; omega
    have s91 := m_sign_b (I := I1) (A := A) (W := W) (d := d) (c := 91) (by omega) n5 w5
    have tb := m_tells_b (I := I1) (A := A) (W := W) (d := d) (k := 5) (x := 0) (y := 0) (by omega) n5 w5
    have tl := tail190 I1 A (.int (zI 0)) (zI (I1 59 36)) n5 w5
    refine mE.bad (u2 I1 59 7 (I1 59 7 - 1)) A ((fc.tr (x1.wd rfl)).f rfl) fr.refl ((u2_f (by decide)).trans x3) ((u2_f (by decide)).trans x4) (by omega) ?_
    simp (implicitDefEqProofs := false) (disch := omega) only [↓rI_s, ↓rV_s, ↓rI_e, ↓rV_e, zc_eq, zc_ne, zc_lt, zc_ge, zc_gt, zc_le, zlt_t, zlt_f, zle_t, zle_f, zeq_t, zeq_f, lz, zadd, zsub, zmul, zneg, zb_e0, zb_e1, boo0, boo1, ua_s, ua_n, ua_ua, up_s, u2_s, u2_f, u2_c, u2_u2, Int.natCast_add, Int.zero_add, Int.add_zero, ↓reduceIte, ne_eq, not_true_eq_false, not_false_eq_true, Int.natCast_one, ↓mc_59, ↓cV eo, ↓cI x5, ↓cV s91, ↓zg_59_36, ↓cV tb, tl]
  rw [q1] at e1
  have r1 := numS_r h5 q1
  obtain ⟨I1, x1, x2, x3, x4⟩ := e1
  have e2 := m_sign (c := 91) (W := W) (d := d) (by omega) x2 (by omega) x3
  show mE _ _ _ _ _ _ _ _ _ (bd (bd (sgnS T n 91 e) fun e1 => bd (qRw T n true (qv T n w l) 151 e1 (qAd 5 v 0 p)) fun y => bd (sgnS T n 93 y.1) fun e2 => .inr (e2, qCl p.1 y.2)) fun x => bd (sgnS T n 59 x.1) fun e => .inr (e, x.2))
  rcases q2 : sgnS T n 91 e with ⟨k, q⟩ | a2
  · rw [q2] at e2
    have r2 := sgnS_l r1.2.1 q2
    obtain ⟨I2, y1, y2, y3, y4, y5⟩ := e2
    have w5 : wI (I2 59 5) := by rw [y4]; omega
    have n5 : I2 59 5 ≠ -1 := by rw [y4]; omega
    have tb := m_tells_b (I := I2) (A := A) (W := W) (d := d) (k := 5) (x := v) (y := 0) (by omega) n5 w5
    have tl := tail190 I2 A (.int (zI v)) (zI (I2 59 36)) n5 w5
    refine mE.bad (u2 I2 59 7 (I2 59 7 - 1)) A (((fc.tr (x1.wd rfl)).tr (y1.wd rfl)).f rfl) fr.refl ((u2_f (by decide)).trans y3) ((u2_f (by decide)).trans y4) (by omega) ?_
    simp (implicitDefEqProofs := false) (disch := omega) only [↓rI_s, ↓rV_s, ↓rI_e, ↓rV_e, zc_eq, zc_ne, zc_lt, zc_ge, zc_gt, zc_le, zlt_t, zlt_f, zle_t, zle_f, zeq_t, zeq_f, lz, zadd, zsub, zmul, zneg, zb_e0, zb_e1, boo0, boo1, ua_s, ua_n, ua_ua, up_s, u2_s, u2_f, u2_c, u2_u2, Int.natCast_add, Int.zero_add, Int.add_zero, ↓reduceIte, ne_eq, not_true_eq_false, not_false_eq_true, Int.natCast_one, ↓mc_59, ↓cV eo, ↓cI x4, ↓cV y5, ↓zg_59_36, ↓cV tb, tl]
  rw [q2] at e2
  have r2 := sgnS_r r1.2.1 q2
  obtain ⟨I2, y1, y2, y3, y4⟩ := e2
  have hQ2 := (hQ0.k (x1.wd rfl)).k (y1.wd rfl)
  have g36 := hQ2.1
  have em := m_tells (W := W) (d := d) (k := 5) (x := v) (y := 0) (by omega) hQ2 (by omega) y3 (fun _ => rfl)
  have em2 := em.2
  have hQ3 := em.1
  have h3 : mTx T n a2 (u2 I2 59 36 (3 * (p.1 : Int) + 3)) (tA A p 5 v 0) := (y2.fr (L := [74]) (fr.refl.a rfl) rfl).fi (K := [(59, 36)]) (fi.refl.f rfl) rfl
  have fA : fr [74] A (tA A p 5 v 0) := fr.refl.a rfl
  have fI : fi pKm I (u2 I2 59 36 (3 * (p.1 : Int) + 3)) := ((fc.tr (x1.wd rfl)).tr (y1.wd rfl)).f rfl
  have b3 : u2 I2 59 36 (3 * (p.1 : Int) + 3) 59 5 = -1 := (u2_f (by decide)).trans y3
  have g3 : u2 I2 59 36 (3 * (p.1 : Int) + 3) 59 7 = o + 1 := (u2_f (by decide)).trans ((y1 59 7 rfl).trans ((x1 59 7 rfl).trans g0))
  have k3 : u2 I2 59 36 (3 * (p.1 : Int) + 3) 59 22 = w := (u2_f (by decide)).trans ((y1 59 22 rfl).trans ((x1 59 22 rfl).trans k0))
  generalize u2 I2 59 36 (3 * (p.1 : Int) + 3) = I3 at em2 hQ3 h3 fI b3 g3 k3
  generalize tA A p 5 v 0 = A3 at em2 hQ3 h3 fA
  clear em
  have l1' : ((qAd 5 v 0 p).1 : Int) = p.1 + 1 := by show ((p.1 + 1 : Nat) : Int) = _; omega
  have hSs := qSs_ok (T := T) hS
  have lp := m_agLoop (W := W) (d := d) (o := o + 1) (l1 := l1) (l2 := .int (zI v)) (l3 := zI (3 * (p.1 : Int))) hSs hin ⟨by omega, by omega⟩ 151 a2 (qAd 5 v 0 p) I3 A3 (by omega) (by omega) h3 b3 g3 k3 hQ3
  have ro := qRw_ok (z := true) hSs 151 a2 (qAd 5 v 0 p) (by omega) (by omega) (by omega) (by omega)
  show mE _ _ _ _ _ _ _ _ _ (bd (bd (qRw T n true (qv T n w l) 151 a2 (qAd 5 v 0 p)) fun y => bd (sgnS T n 93 y.1) fun e2 => .inr (e2, qCl p.1 y.2)) fun x => bd (sgnS T n 59 x.1) fun e => .inr (e, x.2))
  rcases q3 : qRw T n true (qv T n w l) 151 a2 (qAd 5 v 0 p) with ⟨k, q⟩ | ⟨a3, p3⟩
  · rw [q3] at lp
    obtain ⟨I4, A4, z1, z2, z3, z4, z5, z6, z7⟩ := lp
    have w5 : wI (I4 59 5) := by rw [z4]; omega
    have n5 : I4 59 5 ≠ -1 := by rw [z4]; omega
    have tl := tail I4 A4 (.int (zI v)) (zI (3 * (p.1 : Int))) n5 w5
    refine mE.bad (u2 I4 59 7 (I4 59 7 - 1)) A4 ((fI.tr z1).f rfl) (fA.tr z2) ((u2_f (by decide)).trans z3) ((u2_f (by decide)).trans z4) ⟨z5, z6⟩ ?_
    simp (implicitDefEqProofs := false) (disch := omega) only [↓rI_s, ↓rV_s, ↓rI_e, ↓rV_e, zc_eq, zc_ne, zc_lt, zc_ge, zc_gt, zc_le, zlt_t, zlt_f, zle_t, zle_f, zeq_t, zeq_f, lz, zadd, zsub, zmul, zneg, zb_e0, zb_e1, boo0, boo1, ua_s, ua_n, ua_ua, up_s, u2_s, u2_f, u2_c, u2_u2, Int.natCast_add, Int.zero_add, Int.add_zero, ↓reduceIte, ne_eq, not_true_eq_false, not_false_eq_true, Int.natCast_one, ↓mc_59, ↓cV eo, ↓cI x4, ↓cV y4, ↓zg_59_36, g36, ↓cV em2, z7, tl]
  rw [q3] at lp
  obtain ⟨r3, r4, r5, r6⟩ := ro.2 _ _ q3
  obtain ⟨I4, A4, z1, z2, z3, z4, z5, z6, z7⟩ := lp
  have e4 := m_sign (c := 93) (W := W) (d := d) (by omega) z3 (by omega) z4
  show mE _ _ _ _ _ _ _ _ _ (bd (bd (sgnS T n 93 a3) fun e2 => .inr (e2, qCl p.1 p3)) fun x => bd (sgnS T n 59 x.1) fun e => .inr (e, x.2))
  rcases q4 : sgnS T n 93 a3 with ⟨k, q⟩ | a4
  · rw [q4] at e4
    have r7 := sgnS_l r4 q4
    obtain ⟨I5, u1, u2', u3, u4, u5⟩ := e4
    have n6 : u2 I5 59 7 (I5 59 7 - 1) 59 5 ≠ -1 := by rw [u2_f (by decide), u4]; omega
    have w6 : wI (u2 I5 59 7 (I5 59 7 - 1) 59 5) := by rw [u2_f (by decide), u4]; omega
    have f3 := m_fine (I := u2 I5 59 7 (I5 59 7 - 1)) (A := A4) (W := W) (d := d) (by omega) w6
    rw [zb_f n6] at f3
    have fb := fun (a b c : Value) => m_fin_b (I := u2 I5 59 7 (I5 59 7 - 1)) (A := A4) (W := W) (d := d) (l1 := a) (l2 := b) (l3 := c) (by omega) n6 w6
    refine mE.bad (u2 I5 59 7 (I5 59 7 - 1)) A4 (((fI.tr z1).tr (u1.wd rfl)).f rfl) (fA.tr z2) ((u2_f (by decide)).trans u3) ((u2_f (by decide)).trans u4) (by omega) ?_
    simp (implicitDefEqProofs := false) (disch := omega) only [↓rI_s, ↓rV_s, ↓rI_e, ↓rV_e, zc_eq, zc_ne, zc_lt, zc_ge, zc_gt, zc_le, zlt_t, zlt_f, zle_t, zle_f, zeq_t, zeq_f, lz, zadd, zsub, zmul, zneg, zb_e0, zb_e1, boo0, boo1, ua_s, ua_n, ua_ua, up_s, u2_s, u2_f, u2_c, u2_u2, Int.natCast_add, Int.zero_add, Int.add_zero, ↓reduceIte, ne_eq, not_true_eq_false, not_false_eq_true, Int.natCast_one, ↓mc_59, ↓cV eo, ↓cI x4, ↓cV y4, ↓zg_59_36, g36, ↓cV em2, z7, ↓k_X11_readStep_213, ↓cV u5, ↓zg_59_7, ↓zp_59_7, ↓cI f3, ↓k_X11_readStep_248, fb]
  · rw [q4] at e4
    have r7 := sgnS_r r4 q4
    obtain ⟨I5, u1, u2', u3, u4⟩ := e4
    have g7 : I5 59 7 = o + 1 := (u1 59 7 rfl).trans z5
    have o1 : o + 1 - 1 = o := by omega
    have f6 : fi aK I5 (u2 I5 59 7 o) := fi.refl.f rfl
    have hQ5 := (z6.k (u1.wd rfl)).k f6
    have g6 := hQ5.1
    have g65 : I5 59 36 = 3 * (p3.1 : Int) := (z6.k (u1.wd rfl)).1
    have b6 : u2 I5 59 7 o 59 5 = -1 := (u2_f (by decide)).trans u3
    have f3 := m_fine (I := u2 I5 59 7 o) (A := A4) (W := W) (d := d) (by omega) (by omega)
    rw [zb_t b6] at f3
    have pl : p.1 + 1 ≤ p3.1 := r6.1
    have p5 : p3.2.1 p.1 = 5 := (r6.2.1 p.1 (by omega) (by omega)).1.trans up_s
    have h6 : mTx T n a4 (u2 I5 59 7 o) (ua A4 74 (up (A4 74) (3 * (p.1 : Int) + 2) (3 * (p3.1 : Int)))) := (u2'.fr (L := [74]) (fr.refl.a rfl) rfl).fi (K := [(59, 7)]) (fi.refl.f rfl) rfl
    have hQ6 : mQ (qCl p.1 p3) (u2 I5 59 7 o) (ua A4 74 (up (A4 74) (3 * (p.1 : Int) + 2) (3 * (p3.1 : Int)))) := by
      refine ⟨g6, fun j hj => ?_⟩
      obtain ⟨s1, s2, s3⟩ := hQ5.2 j hj
      show up (A4 74) (3 * (p.1 : Int) + 2) (3 * (p3.1 : Int)) (3 * (j : Int)) = p3.2.1 j ∧ up (A4 74) (3 * (p.1 : Int) + 2) (3 * (p3.1 : Int)) (3 * (j : Int) + 1) = p3.2.2.1 j ∧ up (A4 74) (3 * (p.1 : Int) + 2) (3 * (p3.1 : Int)) (3 * (j : Int) + 2) = (if p3.2.1 j = 5 then 3 * up p3.2.2.2 p.1 p3.1 j else up p3.2.2.2 p.1 p3.1 j)
      rw [up_n (j' := 3 * (j : Int)) (by omega), up_n (j' := 3 * (j : Int) + 1) (by omega)]
      refine ⟨s1, s2, ?_⟩
      by_cases e : (j : Int) = p.1
      · rw [e, up_s, up_s, p5, if_pos rfl]
      · rw [up_n (j' := 3 * (j : Int) + 2) (by omega), up_n e]; exact s3
    have fin := m_fin (W := W) (d := d) (l1 := l1) (l2 := .int (zI v)) (l3 := .int (zI (3 * (p.1 : Int)))) (o := o) (by omega) h6 ((u2_f (by decide)).trans u3) u2_s hQ6
    refine fin.up ((((fI.tr z1).tr (u1.wd rfl)).f rfl)) ((fA.tr z2).a rfl) (fun hh e' => ?_)
    rw [← e']
    simp (implicitDefEqProofs := false) (disch := omega) only [↓rI_s, ↓rV_s, ↓rI_e, ↓rV_e, zc_eq, zc_ne, zc_lt, zc_ge, zc_gt, zc_le, zlt_t, zlt_f, zle_t, zle_f, zeq_t, zeq_f, lz, zadd, zsub, zmul, zneg, zb_e0, zb_e1, boo0, boo1, ua_s, ua_n, ua_ua, up_s, u2_s, u2_f, u2_c, u2_u2, Int.natCast_add, Int.zero_add, Int.add_zero, ↓reduceIte, ne_eq, not_true_eq_false, not_false_eq_true, Int.natCast_one, ↓mc_59, ↓cV eo, ↓cI x4, ↓cV y4, ↓zg_59_36, g36, ↓cV em2, z7, ↓k_X11_readStep_213, ↓cV u4, ↓zg_59_7, g7, ↓zp_59_7, o1, ↓cI f3, ↓zg_59_34, g65, zs_74, ↓k_X11_readStep_248]
end PN
