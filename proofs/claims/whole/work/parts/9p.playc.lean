--DEPS 9o.playp
/-! PLAY, in the class. -/
abbrev pKc : List (Nat × Nat) := [(3, 3), (3, 4), (3, 5), (3, 6), (3, 7), (41, 3)]
abbrev pLc : List Nat := [42, 43, 44]
def cQ (w : Int) (p : zPg) (I : Nat → Nat → Int) (A : Nat → Int → Int) : Prop := I 41 3 = p.1 ∧ I 41 4 = w ∧ ∀ j : Nat, j < p.1 → A 42 j = p.2.1 j ∧ A 43 j = p.2.2.1 j ∧ A 44 j = p.2.2.2 j
section PC
variable {d : Nat} {I I' : Nat → Nat → Int} {A : Nat → Int → Int} {W : qWt} {T : Int → Int} {n a w : Int} {p : zPg}
theorem cQ.k (h : cQ w p I A) (f : fi xK I I') : cQ w p I' A := ⟨(f 41 3 rfl).trans h.1, (f 41 4 rfl).trans h.2.1, h.2.2⟩
theorem c_add {k x y : Int} (hd : 1 ≤ d) (h : cQ w p I A) (hc : p.1 < 38) : cQ w (qAd k x y p) (u2 I 41 3 (p.1 + 1)) (ua (ua (ua A 42 (up (A 42) p.1 k)) 43 (up (A 43) p.1 x)) 44 (up (A 44) p.1 y)) ∧ q_call q_MT d 96 [.ref 41, .int (zI k), .int (zI x), .int (zI y)] (zM I A W) = some (.inl (some (.int (zI 1))), zM (u2 I 41 3 (p.1 + 1)) (ua (ua (ua A 42 (up (A 42) p.1 k)) 43 (up (A 43) p.1 x)) 44 (up (A 44) p.1 y)) W) := by
  obtain ⟨d, rfl⟩ : ∃ e, d = e + 1 := ⟨d - 1, by omega⟩
  obtain ⟨h1, h2, h3⟩ := h
  refine ⟨⟨u2_s, (u2_f (by decide)).trans h2, fun j hj => ?_⟩, ?_⟩
  · have hj : j < p.1 + 1 := hj
    show up (A 42) p.1 k j = up p.2.1 p.1 k j ∧ up (A 43) p.1 x j = up p.2.2.1 p.1 x j ∧ up (A 44) p.1 y j = up p.2.2.2 p.1 y j
    by_cases e : (j : Int) = p.1
    · rw [e, up_s, up_s, up_s, up_s, up_s, up_s]; exact ⟨rfl, rfl, rfl⟩
    · rw [up_n e, up_n e, up_n e, up_n e, up_n e, up_n e]; exact h3 j (by omega)
  · rw [cl_X8_add]
    simp (implicitDefEqProofs := false) (disch := omega) only [↓rI_s, ↓rV_s, ↓rI_e, ↓rV_e, zc_eq, zc_ne, zc_lt, zc_ge, zc_gt, zc_le, zlt_t, zlt_f, zle_t, zle_f, zeq_t, zeq_f, lz, zadd, zsub, zmul, zneg, zb_e0, zb_e1, boo0, boo1, ua_s, ua_n, ua_ua, up_s, u2_s, u2_f, u2_c, u2_u2, Int.natCast_add, Int.zero_add, Int.add_zero, ↓reduceIte, ne_eq, not_true_eq_false, not_false_eq_true, Int.natCast_one, ↓k_X8_add_0, ↓zg_41_3, h1, ↓zg_41_0, ↓zn_42, zs_42, ↓zg_41_1, zs_43, ↓zg_41_2, zs_44, ↓zp_41_3, ↓k_X8_add_59]
/-- what is added keeps the text -/
theorem cTx.ad {k x y : Int} (h : cTx T n a I A) : cTx T n a (u2 I 41 3 (p.1 + 1)) (ua (ua (ua A 42 (up (A 42) p.1 k)) 43 (up (A 43) p.1 x)) 44 (up (A 44) p.1 y)) := (h.fr (L := [42, 43, 44]) (((fr.refl.a rfl).a rfl).a rfl) rfl).fi (K := [(41, 3)]) (fi.refl.f rfl) rfl
theorem fr3 {k x y : Int} : fr pLc A (ua (ua (ua A 42 (up (A 42) p.1 k)) 43 (up (A 43) p.1 x)) 44 (up (A 44) p.1 y)) := ((fr.refl.a rfl).a rfl).a rfl
theorem c_flickS {k : Int} (hd : 3 ≤ d) (h : cTx T n a I A) (hQ : cQ w p I A) (hw : 0 ≤ w ∧ w ≤ 10) (hp : p.1 < 38) : cE T n pKc pLc I A W (q_call q_MT d 94 [.ref 41, .ref 3, .int (zI k)] (zM I A W)) (cQ w) (qFl T n w k a p) := by
  obtain ⟨d, rfl⟩ : ∃ e, d = e + 1 := ⟨d - 1, by omega⟩
  have j4 := hQ.2.1
  have e1 := c_number (lo := 0) (hi := w - 1) (W := W) (d := d) (by omega) h (by omega) (by omega)
  unfold qFl
  rcases q1 : numS T n 0 (w - 1) a with ⟨k, p⟩ | ⟨e, v⟩
  · rw [q1] at e1
    obtain ⟨I1, x1, x2, x3, x4⟩ := e1
    refine cE.bad I1 A (x1.wd rfl) fr.refl x2 x3 ?_
    rw [cl_X8_readFlick]
    simp (implicitDefEqProofs := false) (disch := omega) only [↓rI_s, ↓rV_s, ↓rI_e, ↓rV_e, zc_eq, zc_ne, zc_lt, zc_ge, zc_gt, zc_le, zlt_t, zlt_f, zle_t, zle_f, zeq_t, zeq_f, lz, zadd, zsub, zmul, zneg, zb_e0, zb_e1, boo0, boo1, ua_s, ua_n, ua_ua, up_s, u2_s, u2_f, u2_c, u2_u2, Int.natCast_add, Int.zero_add, Int.add_zero, ↓reduceIte, ne_eq, not_true_eq_false, not_false_eq_true, Int.natCast_one, ↓k_X8_readFlick_0, ↓zg_41_4, j4, ↓mc_3, ↓cI x4]
  rw [q1] at e1
  obtain ⟨I1, x1, x2, x3, x4, x5, x6, x7⟩ := e1
  have e2 := c_number (lo := 1) (hi := 9) (W := W) (d := d) (by omega) x2 (by omega) (by omega)
  show cE _ _ _ _ _ _ _ _ _ (bd (numS T n 1 9 e) fun y => .inr (y.1, qAd k v y.2 p))
  rcases q2 : numS T n 1 9 e with ⟨k', p'⟩ | ⟨e', u⟩
  · rw [q2] at e2
    obtain ⟨I2, y1, y2, y3, y4⟩ := e2
    refine cE.bad I2 A ((x1.tr y1).wd rfl) fr.refl y2 y3 ?_
    rw [cl_X8_readFlick]
    simp (implicitDefEqProofs := false) (disch := omega) only [↓rI_s, ↓rV_s, ↓rI_e, ↓rV_e, zc_eq, zc_ne, zc_lt, zc_ge, zc_gt, zc_le, zlt_t, zlt_f, zle_t, zle_f, zeq_t, zeq_f, lz, zadd, zsub, zmul, zneg, zb_e0, zb_e1, boo0, boo1, ua_s, ua_n, ua_ua, up_s, u2_s, u2_f, u2_c, u2_u2, Int.natCast_add, Int.zero_add, Int.add_zero, ↓reduceIte, ne_eq, not_true_eq_false, not_false_eq_true, Int.natCast_one, ↓k_X8_readFlick_0, ↓zg_41_4, j4, ↓mc_3, ↓cI x7, ↓zg_3_5, x4, ↓cI y4, ↓k_X8_readFlick_48, ↓k_X8_readFlick_49]
  · rw [q2] at e2
    obtain ⟨I2, y1, y2, y3, y4, y5, y6, y7⟩ := e2
    have em := c_add (W := W) (d := d) (k := k) (x := v) (y := u) (by omega) ((hQ.k x1).k y1) hp
    have em2 := em.2
    refine cE.ok (u2 I2 41 3 (p.1 + 1)) (ua (ua (ua A 42 (up (A 42) p.1 k)) 43 (up (A 43) p.1 v)) 44 (up (A 44) p.1 u)) (((x1.tr y1).wd rfl).f rfl) fr3 y2.ad ((u2_c (by decide)).trans (y6.trans x6)) em.1 ?_
    rw [cl_X8_readFlick]
    simp (implicitDefEqProofs := false) (disch := omega) only [↓rI_s, ↓rV_s, ↓rI_e, ↓rV_e, zc_eq, zc_ne, zc_lt, zc_ge, zc_gt, zc_le, zlt_t, zlt_f, zle_t, zle_f, zeq_t, zeq_f, lz, zadd, zsub, zmul, zneg, zb_e0, zb_e1, boo0, boo1, ua_s, ua_n, ua_ua, up_s, u2_s, u2_f, u2_c, u2_u2, Int.natCast_add, Int.zero_add, Int.add_zero, ↓reduceIte, ne_eq, not_true_eq_false, not_false_eq_true, Int.natCast_one, ↓k_X8_readFlick_0, ↓zg_41_4, j4, ↓mc_3, ↓cI x7, ↓zg_3_5, x4, ↓cI y7, y4, ↓mc_41, ↓cI em2, ↓k_X8_readFlick_49]
/-- a reader of steps of the class's -/
def cRq (W : qWt) (T : Int → Int) (n w : Int) (mi : Nat) (o : Int) (dm : Nat) (s : Int) (U : zPp) : Prop := ∀ (d : Nat) (a : Int) (p : zPg) (I : Nat → Nat → Int) (A : Nat → Int → Int), dm ≤ d → cTx T n a I A → cQ w p I A → 4 * (p.1 : Int) ≤ a - s → cE T n pKc pLc I A W (q_call q_MT d mi [.ref 41, .ref 3, .int (zI o)] (zM I A W)) (cQ w) (U a p)
theorem c_again {R : zR} {lev dm : Nat} {o : Int} {Rw : zPp} (hn : n ≤ 150) (hR : qOK R n lev 0 Rw) (hin : cRq W T n w 92 o dm 0 Rw) : cRq W T n w 95 o (dm + 4) 5 (qAg T n Rw) := by
  intro d a p I A hd h hQ hpa
  obtain ⟨d, rfl⟩ : ∃ e, d = e + 1 := ⟨d - 1, by omega⟩
  have han := h.2.2.2.2.2.1
  have ha0 := h.2.2.2.2.1
  have e1 := c_number (lo := 0) (hi := 30) (W := W) (d := d) (by omega) h (by omega) (by omega)
  unfold qAg
  rcases q1 : numS T n 0 30 a with ⟨k, p'⟩ | ⟨e, v⟩
  · rw [q1] at e1
    obtain ⟨I1, x1, x2, x3, x4⟩ := e1
    refine cE.bad I1 A (x1.wd rfl) fr.refl x2 x3 ?_
    rw [cl_X8_readAgain]
    simp (implicitDefEqProofs := false) (disch := omega) only [↓rI_s, ↓rV_s, ↓rI_e, ↓rV_e, zc_eq, zc_ne, zc_lt, zc_ge, zc_gt, zc_le, zlt_t, zlt_f, zle_t, zle_f, zeq_t, zeq_f, lz, zadd, zsub, zmul, zneg, zb_e0, zb_e1, boo0, boo1, ua_s, ua_n, ua_ua, up_s, u2_s, u2_f, u2_c, u2_u2, Int.natCast_add, Int.zero_add, Int.add_zero, ↓reduceIte, ne_eq, not_true_eq_false, not_false_eq_true, Int.natCast_one, ↓k_X8_readAgain_0, ↓mc_3, ↓cI x4]
  rw [q1] at e1
  have r1 := numS_r han q1
  obtain ⟨I1, x1, x2, x3, x4, x5, x6, x7⟩ := e1
  have hQ1 := hQ.k x1
  have j3 := hQ1.1
  have em := c_add (W := W) (d := d) (k := 5) (x := v) (y := 0) (by omega) hQ1 (by omega)
  have em2 := em.2
  have hQ2 := em.1
  have t2 := x2.ad (p := p) (k := 5) (x := v) (y := 0)
  have fA : fr pLc A (ua (ua (ua A 42 (up (A 42) p.1 5)) 43 (up (A 43) p.1 v)) 44 (up (A 44) p.1 0)) := fr3
  have fI : fi pKc I (u2 I1 41 3 (p.1 + 1)) := (x1.wd rfl).f rfl
  have g7 : u2 I1 41 3 (p.1 + 1) 3 7 = I 3 7 := (u2_c (by decide)).trans x6
  generalize u2 I1 41 3 (p.1 + 1) = I2 at em2 hQ2 t2 fI g7
  generalize ua (ua (ua A 42 (up (A 42) p.1 5)) 43 (up (A 43) p.1 v)) 44 (up (A 44) p.1 0) = A2 at em2 hQ2 t2 fA
  clear em
  have e2 := c_sign (c := 91) (W := W) (d := d) (by omega) t2 (by omega)
  show cE _ _ _ _ _ _ _ _ _ (bd (sgnS T n 91 e) fun e1 => bd (Rw e1 (qAd 5 v 0 p)) fun y => bd (sgnS T n 93 y.1) fun e2 => .inr (e2, qCl p.1 y.2))
  rcases q2 : sgnS T n 91 e with ⟨k, p'⟩ | a2
  · rw [q2] at e2
    obtain ⟨I3, y1, y2, y3, y4⟩ := e2
    refine cE.bad I3 A2 (fI.tr (y1.wd rfl)) fA y2 y3 ?_
    rw [cl_X8_readAgain]
    simp (implicitDefEqProofs := false) (disch := omega) only [↓rI_s, ↓rV_s, ↓rI_e, ↓rV_e, zc_eq, zc_ne, zc_lt, zc_ge, zc_gt, zc_le, zlt_t, zlt_f, zle_t, zle_f, zeq_t, zeq_f, lz, zadd, zsub, zmul, zneg, zb_e0, zb_e1, boo0, boo1, ua_s, ua_n, ua_ua, up_s, u2_s, u2_f, u2_c, u2_u2, Int.natCast_add, Int.zero_add, Int.add_zero, ↓reduceIte, ne_eq, not_true_eq_false, not_false_eq_true, Int.natCast_one, ↓k_X8_readAgain_0, ↓mc_3, ↓cI x7, ↓zg_41_3, j3, ↓zg_3_5, x4, ↓mc_41, ↓cI em2, ↓cI y4, ↓k_X8_readAgain_55]
  rw [q2] at e2
  have r2 := sgnS_r r1.2.1 q2
  obtain ⟨I3, y1, y2, y3, y4, y5⟩ := e2
  have l1 : ((qAd 5 v 0 p).1 : Int) = p.1 + 1 := by show ((p.1 + 1 : Nat) : Int) = _; omega
  have e3 := hin d a2 (qAd 5 v 0 p) I3 A2 (by omega) y2 (hQ2.k y1) (by omega)
  show cE _ _ _ _ _ _ _ _ _ (bd (Rw a2 (qAd 5 v 0 p)) fun y => bd (sgnS T n 93 y.1) fun e2 => .inr (e2, qCl p.1 y.2))
  rcases q3 : Rw a2 (qAd 5 v 0 p) with ⟨k, p'⟩ | ⟨a3, p3⟩
  · rw [q3] at e3
    obtain ⟨I4, A4, z1, z2, z3, z4, z5⟩ := e3
    refine cE.bad I4 A4 ((fI.tr (y1.wd rfl)).tr z1) (fA.tr z2) z3 z4 ?_
    rw [cl_X8_readAgain]
    simp (implicitDefEqProofs := false) (disch := omega) only [↓rI_s, ↓rV_s, ↓rI_e, ↓rV_e, zc_eq, zc_ne, zc_lt, zc_ge, zc_gt, zc_le, zlt_t, zlt_f, zle_t, zle_f, zeq_t, zeq_f, lz, zadd, zsub, zmul, zneg, zb_e0, zb_e1, boo0, boo1, ua_s, ua_n, ua_ua, up_s, u2_s, u2_f, u2_c, u2_u2, Int.natCast_add, Int.zero_add, Int.add_zero, ↓reduceIte, ne_eq, not_true_eq_false, not_false_eq_true, Int.natCast_one, ↓k_X8_readAgain_0, ↓mc_3, ↓cI x7, ↓zg_41_3, j3, ↓zg_3_5, x4, ↓mc_41, ↓cI em2, ↓cI y5, ↓cI z5, ↓k_X8_readAgain_55]
  rw [q3] at e3
  obtain ⟨r3, r4, r5, r6⟩ := hR.2 _ _ _ _ (by omega) (by omega) (by omega) q3
  rw [if_neg (by decide)] at r5
  obtain ⟨I4, A4, z1, z2, z3, z4, z5, z6⟩ := e3
  have e4 := c_sign (c := 93) (W := W) (d := d) (by omega) z3 (by omega)
  show cE _ _ _ _ _ _ _ _ _ (bd (sgnS T n 93 a3) fun e2 => .inr (e2, qCl p.1 p3))
  rcases q4 : sgnS T n 93 a3 with ⟨k, p'⟩ | a4
  · rw [q4] at e4
    obtain ⟨I5, u1, u2', u3, u4⟩ := e4
    refine cE.bad I5 A4 (((fI.tr (y1.wd rfl)).tr z1).tr (u1.wd rfl)) (fA.tr z2) u2' u3 ?_
    rw [cl_X8_readAgain]
    simp (implicitDefEqProofs := false) (disch := omega) only [↓rI_s, ↓rV_s, ↓rI_e, ↓rV_e, zc_eq, zc_ne, zc_lt, zc_ge, zc_gt, zc_le, zlt_t, zlt_f, zle_t, zle_f, zeq_t, zeq_f, lz, zadd, zsub, zmul, zneg, zb_e0, zb_e1, boo0, boo1, ua_s, ua_n, ua_ua, up_s, u2_s, u2_f, u2_c, u2_u2, Int.natCast_add, Int.zero_add, Int.add_zero, ↓reduceIte, ne_eq, not_true_eq_false, not_false_eq_true, Int.natCast_one, ↓k_X8_readAgain_0, ↓mc_3, ↓cI x7, ↓zg_41_3, j3, ↓zg_3_5, x4, ↓mc_41, ↓cI em2, ↓cI y5, ↓cI z6, ↓cI u4, ↓k_X8_readAgain_55]
  · rw [q4] at e4
    obtain ⟨I5, u1, u2', u3, u4, u5⟩ := e4
    have hQ5 := z5.k u1
    have j35 := hQ5.1
    refine cE.ok I5 (ua A4 44 (up (A4 44) p.1 p3.1)) (((fI.tr (y1.wd rfl)).tr z1).tr (u1.wd rfl)) ((fA.tr z2).a rfl) (u2'.fr (L := [44]) (fr.refl.a rfl) rfl) (u4.trans (z4.trans (y4.trans g7))) ⟨j35, hQ5.2.1, fun j hj => ?_⟩ ?_
    · obtain ⟨s1, s2, s3⟩ := hQ5.2.2 j hj
      refine ⟨s1, s2, ?_⟩
      show up (A4 44) p.1 p3.1 j = up p3.2.2.2 p.1 p3.1 j
      by_cases e : (j : Int) = p.1
      · rw [e, up_s, up_s]
      · rw [up_n e, up_n e]; exact s3
    · rw [cl_X8_readAgain]
      simp (implicitDefEqProofs := false) (disch := omega) only [↓rI_s, ↓rV_s, ↓rI_e, ↓rV_e, zc_eq, zc_ne, zc_lt, zc_ge, zc_gt, zc_le, zlt_t, zlt_f, zle_t, zle_f, zeq_t, zeq_f, lz, zadd, zsub, zmul, zneg, zb_e0, zb_e1, boo0, boo1, ua_s, ua_n, ua_ua, up_s, u2_s, u2_f, u2_c, u2_u2, Int.natCast_add, Int.zero_add, Int.add_zero, ↓reduceIte, ne_eq, not_true_eq_false, not_false_eq_true, Int.natCast_one, ↓k_X8_readAgain_0, ↓mc_3, ↓cI x7, ↓zg_41_3, j3, ↓zg_3_5, x4, ↓mc_41, ↓cI em2, ↓cI y5, ↓cI z6, ↓cI u5, ↓zg_41_2, ↓zn_44, j35, zs_44, ↓k_X8_readAgain_76]
end PC
