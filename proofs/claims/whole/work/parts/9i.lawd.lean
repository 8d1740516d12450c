--DEPS 9h.lawc
section LD
variable {d : Nat} {I I' : Nat → Nat → Int} {A : Nat → Int → Int} {W : qWt} {T : Int → Int} {n a : Int} {c : zC}
theorem lPq_r {S : zP} {M e : Int} {c' : zC} (hS : lOK n M S) (a0 : 0 ≤ a) (a1 : a ≤ n) (h : lPq T n S a c = .inr (e, c')) : a < e ∧ e ≤ n ∧ (c'.1 : Int) - c.1 ≤ e - a - 1 := by
  obtain ⟨e1, h1, h⟩ := bd_r h
  have r1 := sgnS_r a1 h1
  obtain ⟨⟨e2, c2⟩, h2, h⟩ := bd_r h
  obtain ⟨p1, p2, p3, p4, p5⟩ := hS.2 _ _ _ _ (by omega) (by omega) h2
  dsimp only at h p3 p4 p5
  obtain ⟨e3, h3, h⟩ := bd_r h
  have r3 := sgnS_r p2 h3
  obtain ⟨⟨e4, c4⟩, h4, h⟩ := bd_r h
  obtain ⟨q1, q2, q3, q4, q5⟩ := hS.2 _ _ _ _ (by omega) (by omega) h4
  dsimp only at h q3 q4 q5
  obtain ⟨e5, h5, h⟩ := bd_r h
  have r5 := sgnS_r q2 h5
  cases h
  omega
theorem c_unit {S : zP} {M o : Int} {dm : Nat} (hn : n ≤ 150) (ho : 0 ≤ o ∧ o ≤ 6) (hS : o < 6 → lOK n M S) (hin : o < 6 → cRd W T n 66 (o + 1) dm S) : cRd W T n 68 o (dm + 5) (lUn T n (decide (o < 6)) S) := by
  intro d a c I A hd h hC hca
  obtain ⟨d, rfl⟩ : ∃ e, d = e + 1 := ⟨d - 1, by omega⟩
  have han := h.2.2.2.2.2.1
  have ha0 := h.2.2.2.2.1
  have sb := sk_b (T := T) han
  have dg := gE_b (q := qL' T) sb.2
  have tb := h.2.1 (sk T n a)
  have ep := c_peek (W := W) (d := d) (by omega) h
  have h0 : cTx T n (sk T n a) (u2 (u2 I 3 3 (sk T n a)) 3 4 (sk T n a)) A := h.u (by rw [u2_f (by decide), u2_f (by decide)]) (by rw [u2_f (by decide), u2_s]) (by omega) sb.2
  have f0 : fi xK I (u2 (u2 I 3 3 (sk T n a)) 3 4 (sk T n a)) := (fi.refl.f rfl).f rfl
  have g7 : u2 (u2 I 3 3 (sk T n a)) 3 4 (sk T n a) 3 7 = I 3 7 := by rw [u2_f (by decide), u2_f (by decide)]
  have g4 : u2 (u2 I 3 3 (sk T n a)) 3 4 (sk T n a) 3 4 = sk T n a := u2_s
  generalize u2 (u2 I 3 3 (sk T n a)) 3 4 (sk T n a) = I0 at ep h0 f0 g7 g4
  have fc : fi lKc I I0 := f0.wd rfl
  have hC0 := hC.k f0
  have a1 := c_allow1 (W := W) (A := A) (I := I0) (d := d) (by omega) g4
  have a0 := c_allow0 (W := W) (A := A) (I := I0) (d := d) (by omega) g4
  unfold lUn
  by_cases qd : sk T n a < n ∧ 48 ≤ T (sk T n a) ∧ T (sk T n a) ≤ 57
  · rw [if_pos qd]
    rw [if_pos qd.1] at ep
    have e1 := c_number (lo := 0) (hi := 999) (W := W) (d := d) (by omega) h0 (by omega) (by omega)
    have eq : numS T n 0 999 (sk T n a) = numS T n 0 999 a := by unfold numS; rw [sk_sk han]
    rw [eq] at e1
    rcases q1 : numS T n 0 999 a with ⟨k, p⟩ | ⟨e, v⟩
    · rw [q1] at e1
      obtain ⟨I1, x1, x2, x3, x4⟩ := e1
      refine cE.bad I1 A (fc.tr (x1.wd rfl)) fr.refl x2 x3 ?_
      rw [cl_X5_readUnit]
      simp (implicitDefEqProofs := false) (disch := omega) only [↓rI_s, ↓rV_s, ↓rI_e, ↓rV_e, zc_eq, zc_ne, zc_lt, zc_ge, zc_gt, zc_le, zlt_t, zlt_f, zle_t, zle_f, zeq_t, zeq_f, lz, zadd, zsub, zmul, zneg, zb_e0, zb_e1, boo0, boo1, ua_s, ua_n, ua_ua, up_s, u2_s, u2_f, u2_c, u2_u2, Int.natCast_add, Int.zero_add, Int.add_zero, ↓reduceIte, ne_eq, not_true_eq_false, not_false_eq_true, Int.natCast_one, ↓k_X5_readUnit_0, ↓mc_3, ↓cI ep, ↓cI x4, ↓k_X5_readUnit_43, ↓k_X5_readUnit_44]
    · rw [q1] at e1
      have r1 := numS_r han q1
      obtain ⟨I1, x1, x2, x3, x4, x5, x6, x7⟩ := e1
      have em := c_emit (W := W) (d := d) (v := v) (by omega) (hC0.k x1) (by omega)
      have em2 := em.2
      refine cE.ok (u2 I1 19 5 (c.1 + 1)) (ua A 21 (up (A 21) c.1 v)) ((fc.tr (x1.wd rfl)).f rfl) (fr.refl.a rfl) ((x2.fr (L := [21]) (fr.refl.a rfl) rfl).fi (K := [(19, 5)]) (fi.refl.f rfl) rfl) ((u2_c (by decide)).trans (x6.trans g7)) em.1 ?_
      rw [cl_X5_readUnit]
      simp (implicitDefEqProofs := false) (disch := omega) only [↓rI_s, ↓rV_s, ↓rI_e, ↓rV_e, zc_eq, zc_ne, zc_lt, zc_ge, zc_gt, zc_le, zlt_t, zlt_f, zle_t, zle_f, zeq_t, zeq_f, lz, zadd, zsub, zmul, zneg, zb_e0, zb_e1, boo0, boo1, ua_s, ua_n, ua_ua, up_s, u2_s, u2_f, u2_c, u2_u2, Int.natCast_add, Int.zero_add, Int.add_zero, ↓reduceIte, ne_eq, not_true_eq_false, not_false_eq_true, Int.natCast_one, ↓k_X5_readUnit_0, ↓mc_3, ↓cI ep, ↓cI x7, ↓zg_3_5, x4, ↓mc_19, ↓cI em2, ↓k_X5_readUnit_44]
  rw [if_neg qd]
  by_cases qp : sk T n a < n ∧ T (sk T n a) = 40
  · rw [if_pos qp]
    rw [if_pos qp.1, qp.2] at ep
    by_cases ol : o < 6
    · rw [if_pos (decide_eq_true ol)]
      have e1 := c_sign (c := 40) (W := W) (d := d) (by omega) h0 (by omega)
      have eq : sgnS T n 40 (sk T n a) = .inr (sk T n a + 1) := by
        unfold sgnS
        rw [sk_sk han, if_pos qp]
      rw [eq] at e1
      obtain ⟨I1, x1, x2, x3, x4, x5⟩ := e1
      have e2 := hin ol d (sk T n a + 1) c I1 A (by omega) x2 (hC0.k x1) (by omega)
      rcases q2 : S (sk T n a + 1) c with ⟨k, p⟩ | ⟨a2, c2⟩
      · rw [q2] at e2
        obtain ⟨I2, A2, y1, y2, y3, y4, y5⟩ := e2
        refine cE.bad I2 A2 ((fc.tr (x1.wd rfl)).tr y1) y2 y3 y4 ?_
        rw [cl_X5_readUnit]
        simp (implicitDefEqProofs := false) (disch := omega) only [↓rI_s, ↓rV_s, ↓rI_e, ↓rV_e, zc_eq, zc_ne, zc_lt, zc_ge, zc_gt, zc_le, zlt_t, zlt_f, zle_t, zle_f, zeq_t, zeq_f, lz, zadd, zsub, zmul, zneg, zb_e0, zb_e1, boo0, boo1, ua_s, ua_n, ua_ua, up_s, u2_s, u2_f, u2_c, u2_u2, Int.natCast_add, Int.zero_add, Int.add_zero, ↓reduceIte, ne_eq, not_true_eq_false, not_false_eq_true, Int.natCast_one, ↓k_X5_readUnit_0, ↓mc_3, ↓cI ep, ↓k_X5_readUnit_45, ↓k_X5_readUnit_63, ↓cI a1, ↓cI x5, ↓mc_19, ↓cI y5, ↓k_X5_readUnit_102, ↓k_X5_readUnit_103]
      rw [q2] at e2
      have r2 := (hS ol).2 _ _ _ _ (by omega) (by omega) q2
      obtain ⟨I2, A2, y1, y2, y3, y4, y5, y6⟩ := e2
      have e3 := c_sign (c := 41) (W := W) (d := d) (by omega) y3 (by omega)
      show cE _ _ _ _ _ _ _ _ _ (bd (sgnS T n 41 a2) fun e => .inr (e, c2))
      rcases q3 : sgnS T n 41 a2 with ⟨k, p⟩ | a3
      · rw [q3] at e3
        obtain ⟨I3, z1, z2, z3, z4⟩ := e3
        refine cE.bad I3 A2 (((fc.tr (x1.wd rfl)).tr y1).tr (z1.wd rfl)) y2 z2 z3 ?_
        rw [cl_X5_readUnit]
        simp (implicitDefEqProofs := false) (disch := omega) only [↓rI_s, ↓rV_s, ↓rI_e, ↓rV_e, zc_eq, zc_ne, zc_lt, zc_ge, zc_gt, zc_le, zlt_t, zlt_f, zle_t, zle_f, zeq_t, zeq_f, lz, zadd, zsub, zmul, zneg, zb_e0, zb_e1, boo0, boo1, ua_s, ua_n, ua_ua, up_s, u2_s, u2_f, u2_c, u2_u2, Int.natCast_add, Int.zero_add, Int.add_zero, ↓reduceIte, ne_eq, not_true_eq_false, not_false_eq_true, Int.natCast_one, ↓k_X5_readUnit_0, ↓mc_3, ↓cI ep, ↓k_X5_readUnit_45, ↓k_X5_readUnit_63, ↓cI a1, ↓cI x5, ↓mc_19, ↓cI y6, ↓cI z4, ↓k_X5_readUnit_102, ↓k_X5_readUnit_103]
      · rw [q3] at e3
        obtain ⟨I3, z1, z2, z3, z4, z5⟩ := e3
        refine cE.ok I3 A2 (((fc.tr (x1.wd rfl)).tr y1).tr (z1.wd rfl)) y2 z2 (z4.trans (y4.trans (x4.trans g7))) (y5.k z1) ?_
        rw [cl_X5_readUnit]
        simp (implicitDefEqProofs := false) (disch := omega) only [↓rI_s, ↓rV_s, ↓rI_e, ↓rV_e, zc_eq, zc_ne, zc_lt, zc_ge, zc_gt, zc_le, zlt_t, zlt_f, zle_t, zle_f, zeq_t, zeq_f, lz, zadd, zsub, zmul, zneg, zb_e0, zb_e1, boo0, boo1, ua_s, ua_n, ua_ua, up_s, u2_s, u2_f, u2_c, u2_u2, Int.natCast_add, Int.zero_add, Int.add_zero, ↓reduceIte, ne_eq, not_true_eq_false, not_false_eq_true, Int.natCast_one, ↓k_X5_readUnit_0, ↓mc_3, ↓cI ep, ↓k_X5_readUnit_45, ↓k_X5_readUnit_63, ↓cI a1, ↓cI x5, ↓mc_19, ↓cI y6, ↓cI z5, ↓k_X5_readUnit_103]
    · rw [if_neg (fun q => ol (of_decide_eq_true q))]
      refine cE.bad (u2 (u2 I0 3 6 3) 3 7 (sk T n a)) A ((fc.f rfl).f rfl) fr.refl (by rw [u2_f (by decide), u2_s]) u2_s ?_
      rw [cl_X5_readUnit]
      simp (implicitDefEqProofs := false) (disch := omega) only [↓rI_s, ↓rV_s, ↓rI_e, ↓rV_e, zc_eq, zc_ne, zc_lt, zc_ge, zc_gt, zc_le, zlt_t, zlt_f, zle_t, zle_f, zeq_t, zeq_f, lz, zadd, zsub, zmul, zneg, zb_e0, zb_e1, boo0, boo1, ua_s, ua_n, ua_ua, up_s, u2_s, u2_f, u2_c, u2_u2, Int.natCast_add, Int.zero_add, Int.add_zero, ↓reduceIte, ne_eq, not_true_eq_false, not_false_eq_true, Int.natCast_one, ↓k_X5_readUnit_0, ↓mc_3, ↓cI ep, ↓k_X5_readUnit_45, ↓k_X5_readUnit_63, ↓cI a0, ↓k_X5_readUnit_102, ↓k_X5_readUnit_103]
  rw [if_neg qp]
  -- a word
  have pv : ∃ pv : Int, (pv < 48 ∨ 57 < pv) ∧ pv ≠ 40 ∧ -1 ≤ pv ∧ pv ≤ 255 ∧ q_call q_MT d 105 [.ref 3] (zM I A W) = some (.inl (some (.int (zI pv))), zM I0 A W) := by
    by_cases q : sk T n a < n
    · rw [if_pos q] at ep
      exact ⟨T (sk T n a), by omega, by omega, by omega, by omega, ep⟩
    · rw [if_neg q] at ep
      exact ⟨-1, by omega, by omega, by omega, by omega, ep⟩
  obtain ⟨pv, pv1, pv2, pv3, pv4, ep⟩ := pv
  have go : q_call q_MT (d + 1) 68 [.ref 19, .ref 3, .int (zI o)] (zM I A W) = q_run qm_X5_readUnit (q_call q_MT d) 45 [.ref 19, .ref 3, .int (zI o), .int (zI pv), q_junk] [] (zM I0 A W) := by
    rw [cl_X5_readUnit]
    by_cases q : pv < 48
    · simp (implicitDefEqProofs := false) (disch := omega) only [↓rI_s, ↓rV_s, ↓rI_e, ↓rV_e, zc_eq, zc_ne, zc_lt, zc_ge, zc_gt, zc_le, zlt_t, zlt_f, zle_t, zle_f, zeq_t, zeq_f, lz, zadd, zsub, zmul, zneg, zb_e0, zb_e1, boo0, boo1, ua_s, ua_n, ua_ua, up_s, u2_s, u2_f, u2_c, u2_u2, Int.natCast_add, Int.zero_add, Int.add_zero, ↓reduceIte, ne_eq, not_true_eq_false, not_false_eq_true, Int.natCast_one, ↓k_X5_readUnit_0, ↓mc_3, ↓cI ep]
    · simp (implicitDefEqProofs := false) (disch := omega) only [↓rI_s, ↓rV_s, ↓rI_e, ↓rV_e, zc_eq, zc_ne, zc_lt, zc_ge, zc_gt, zc_le, zlt_t, zlt_f, zle_t, zle_f, zeq_t, zeq_f, lz, zadd, zsub, zmul, zneg, zb_e0, zb_e1, boo0, boo1, ua_s, ua_n, ua_ua, up_s, u2_s, u2_f, u2_c, u2_u2, Int.natCast_add, Int.zero_add, Int.add_zero, ↓reduceIte, ne_eq, not_true_eq_false, not_false_eq_true, Int.natCast_one, ↓k_X5_readUnit_0, ↓mc_3, ↓cI ep]
  rw [go]
  have ew := c_word (W := W) (d := d) (by omega) h0
  rw [sk_sk han] at ew
  by_cases hw : gE (qL' T) n (sk T n a) = sk T n a
  · rw [if_pos hw] at ew
    obtain ⟨I1, x1, x2, x3, x4⟩ := ew
    have hw5 : ∀ i : Nat, i < 19 → ¬ wq T (sk T n a) (gE (qL' T) n (sk T n a)) i := fun i hi => by
      rw [hw]
      exact wq_e hi
    rw [if_neg (hw5 5 (by decide)), if_neg (hw5 6 (by decide)), if_pos (by rw [hw]; exact lFa_n)]
    refine cE.bad I1 A (fc.tr (x1.wd rfl)) fr.refl x2 x3 ?_
    rw [k_X5_readUnit_45]
    simp (implicitDefEqProofs := false) (disch := omega) only [↓rI_s, ↓rV_s, ↓rI_e, ↓rV_e, zc_eq, zc_ne, zc_lt, zc_ge, zc_gt, zc_le, zlt_t, zlt_f, zle_t, zle_f, zeq_t, zeq_f, lz, zadd, zsub, zmul, zneg, zb_e0, zb_e1, boo0, boo1, ua_s, ua_n, ua_ua, up_s, u2_s, u2_f, u2_c, u2_u2, Int.natCast_add, Int.zero_add, Int.add_zero, ↓reduceIte, ne_eq, not_true_eq_false, not_false_eq_true, Int.natCast_one, ↓mc_3, ↓cI x4]
  rw [if_neg hw] at ew
  obtain ⟨I1, x1, x2, x3, x4, x5, x6⟩ := ew
  have hb : 0 ≤ sk T n a ∧ sk T n a ≤ gE (qL' T) n (sk T n a) := ⟨by omega, dg.1⟩
  have fd : fi lKc I I1 := fc.tr (x1.wd rfl)
  have hC1 := hC0.k x1
  have a1 := c_allow1 (W := W) (A := A) (I := I1) (d := d) (by omega) x3
  have a0 := c_allow0 (W := W) (A := A) (I := I1) (d := d) (by omega) x3
  have bad3 : ∀ {r : qR}, r = some (.inl (some (.int (zI 0))), zM (u2 (u2 I1 3 6 3) 3 7 (sk T n a)) A W) → cE T n lKc [21] I A W r cC (.inl (3, sk T n a)) := fun {r} e => cE.bad (u2 (u2 I1 3 6 3) 3 7 (sk T n a)) A ((fd.f rfl).f rfl) fr.refl (by rw [u2_f (by decide), u2_s]) u2_s e
  have t1 : ∀ i : Nat, i < 19 → wq T (sk T n a) (gE (qL' T) n (sk T n a)) i → q_call q_MT d 110 [.ref 3, .float (UInt32.ofNat i)] (zM I1 A W) = some (.inl (some (.int (zI 1))), zM I1 A W) := fun i hi w => c_wq1 hi (by omega) x2 x3 hb w
  have t0 : ∀ i : Nat, i < 19 → ¬ wq T (sk T n a) (gE (qL' T) n (sk T n a)) i → q_call q_MT d 110 [.ref 3, .float (UInt32.ofNat i)] (zM I1 A W) = some (.inl (some (.int (zI 0))), zM I1 A W) := fun i hi w => c_wq0 hi (by omega) x2 x3 hb w
  rw [k_X5_readUnit_45]
  by_cases w5 : wq T (sk T n a) (gE (qL' T) n (sk T n a)) 5
  · rw [if_pos w5]
    have v5 : q_call q_MT d 110 [.ref 3, .float 5] (zM I1 A W) = _ := t1 5 (by decide) w5
    by_cases ol : o < 6
    · rw [if_pos (decide_eq_true ol), lPa_q]
      have e2 := c_pair (M := M) hn (show 0 ≤ o + 1 ∧ o + 1 ≤ 6 by omega) (hS ol) (hin ol) d (gE (qL' T) n (sk T n a)) c I1 A (by omega) x2 hC1 (by omega)
      rcases q2 : lPq T n S (gE (qL' T) n (sk T n a)) c with ⟨k, p⟩ | ⟨a2, c2⟩
      · rw [q2] at e2
        obtain ⟨I2, A2, y1, y2, y3, y4, y5⟩ := e2
        refine cE.bad I2 A2 (fd.tr y1) y2 y3 y4 ?_
        simp (implicitDefEqProofs := false) (disch := omega) only [↓rI_s, ↓rV_s, ↓rI_e, ↓rV_e, zc_eq, zc_ne, zc_lt, zc_ge, zc_gt, zc_le, zlt_t, zlt_f, zle_t, zle_f, zeq_t, zeq_f, lz, zadd, zsub, zmul, zneg, zb_e0, zb_e1, boo0, boo1, ua_s, ua_n, ua_ua, up_s, u2_s, u2_f, u2_c, u2_u2, Int.natCast_add, Int.zero_add, Int.add_zero, ↓reduceIte, ne_eq, not_true_eq_false, not_false_eq_true, Int.natCast_one, ↓mc_3, ↓cI x6, ↓cI v5, ↓k_X5_readUnit_134, ↓cI a1, ↓mc_19, ↓cI y5, ↓k_X5_readUnit_165, ↓k_X5_readUnit_166]
      · rw [q2] at e2
        have r2 := lPq_r (hS ol) (by omega) dg.2.1 q2
        obtain ⟨I2, A2, y1, y2, y3, y4, y5, y6⟩ := e2
        have em := c_emit (W := W) (d := d) (v := 2004) (by omega) y5 (by omega)
        have em2 := em.2
        refine cE.ok (u2 I2 19 5 (c2.1 + 1)) (ua A2 21 (up (A2 21) c2.1 2004)) ((fd.tr y1).f rfl) (y2.a rfl) ((y3.fr (L := [21]) (fr.refl.a rfl) rfl).fi (K := [(19, 5)]) (fi.refl.f rfl) rfl) ((u2_c (by decide)).trans (y4.trans (x5.trans g7))) em.1 ?_
        simp (implicitDefEqProofs := false) (disch := omega) only [↓rI_s, ↓rV_s, ↓rI_e, ↓rV_e, zc_eq, zc_ne, zc_lt, zc_ge, zc_gt, zc_le, zlt_t, zlt_f, zle_t, zle_f, zeq_t, zeq_f, lz, zadd, zsub, zmul, zneg, zb_e0, zb_e1, boo0, boo1, ua_s, ua_n, ua_ua, up_s, u2_s, u2_f, u2_c, u2_u2, Int.natCast_add, Int.zero_add, Int.add_zero, ↓reduceIte, ne_eq, not_true_eq_false, not_false_eq_true, Int.natCast_one, ↓mc_3, ↓cI x6, ↓cI v5, ↓k_X5_readUnit_134, ↓cI a1, ↓mc_19, ↓cI y6, ↓cI em2, ↓k_X5_readUnit_166]
    · rw [if_neg (fun q => ol (of_decide_eq_true q))]
      refine bad3 ?_
      simp (implicitDefEqProofs := false) (disch := omega) only [↓rI_s, ↓rV_s, ↓rI_e, ↓rV_e, zc_eq, zc_ne, zc_lt, zc_ge, zc_gt, zc_le, zlt_t, zlt_f, zle_t, zle_f, zeq_t, zeq_f, lz, zadd, zsub, zmul, zneg, zb_e0, zb_e1, boo0, boo1, ua_s, ua_n, ua_ua, up_s, u2_s, u2_f, u2_c, u2_u2, Int.natCast_add, Int.zero_add, Int.add_zero, ↓reduceIte, ne_eq, not_true_eq_false, not_false_eq_true, Int.natCast_one, ↓mc_3, ↓cI x6, ↓cI v5, ↓k_X5_readUnit_134, ↓cI a0, ↓k_X5_readUnit_165, ↓k_X5_readUnit_166]
  rw [if_neg w5]
  have v5 : q_call q_MT d 110 [.ref 3, .float 5] (zM I1 A W) = _ := t0 5 (by decide) w5
  by_cases w6 : wq T (sk T n a) (gE (qL' T) n (sk T n a)) 6
  · rw [if_pos w6]
    have v6 : q_call q_MT d 110 [.ref 3, .float 6] (zM I1 A W) = _ := t1 6 (by decide) w6
    by_cases ol : o < 6
    · rw [if_pos (decide_eq_true ol), lPa_q]
      have e2 := c_pair (M := M) hn (show 0 ≤ o + 1 ∧ o + 1 ≤ 6 by omega) (hS ol) (hin ol) d (gE (qL' T) n (sk T n a)) c I1 A (by omega) x2 hC1 (by omega)
      rcases q2 : lPq T n S (gE (qL' T) n (sk T n a)) c with ⟨k, p⟩ | ⟨a2, c2⟩
      · rw [q2] at e2
        obtain ⟨I2, A2, y1, y2, y3, y4, y5⟩ := e2
        refine cE.bad I2 A2 (fd.tr y1) y2 y3 y4 ?_
        simp (implicitDefEqProofs := false) (disch := omega) only [↓rI_s, ↓rV_s, ↓rI_e, ↓rV_e, zc_eq, zc_ne, zc_lt, zc_ge, zc_gt, zc_le, zlt_t, zlt_f, zle_t, zle_f, zeq_t, zeq_f, lz, zadd, zsub, zmul, zneg, zb_e0, zb_e1, boo0, boo1, ua_s, ua_n, ua_ua, up_s, u2_s, u2_f, u2_c, u2_u2, Int.natCast_add, Int.zero_add, Int.add_zero, ↓reduceIte, ne_eq, not_true_eq_false, not_false_eq_true, Int.natCast_one, ↓mc_3, ↓cI x6, ↓cI v5, ↓cI v6, ↓k_X5_readUnit_188, ↓cI a1, ↓mc_19, ↓cI y5, ↓k_X5_readUnit_219, ↓k_X5_readUnit_220]
      · rw [q2] at e2
        have r2 := lPq_r (hS ol) (by omega) dg.2.1 q2
        obtain ⟨I2, A2, y1, y2, y3, y4, y5, y6⟩ := e2
        have em := c_emit (W := W) (d := d) (v := 2005) (by omega) y5 (by omega)
        have em2 := em.2
        refine cE.ok (u2 I2 19 5 (c2.1 + 1)) (ua A2 21 (up (A2 21) c2.1 2005)) ((fd.tr y1).f rfl) (y2.a rfl) ((y3.fr (L := [21]) (fr.refl.a rfl) rfl).fi (K := [(19, 5)]) (fi.refl.f rfl) rfl) ((u2_c (by decide)).trans (y4.trans (x5.trans g7))) em.1 ?_
        simp (implicitDefEqProofs := false) (disch := omega) only [↓rI_s, ↓rV_s, ↓rI_e, ↓rV_e, zc_eq, zc_ne, zc_lt, zc_ge, zc_gt, zc_le, zlt_t, zlt_f, zle_t, zle_f, zeq_t, zeq_f, lz, zadd, zsub, zmul, zneg, zb_e0, zb_e1, boo0, boo1, ua_s, ua_n, ua_ua, up_s, u2_s, u2_f, u2_c, u2_u2, Int.natCast_add, Int.zero_add, Int.add_zero, ↓reduceIte, ne_eq, not_true_eq_false, not_false_eq_true, Int.natCast_one, ↓mc_3, ↓cI x6, ↓cI v5, ↓cI v6, ↓k_X5_readUnit_188, ↓cI a1, ↓mc_19, ↓cI y6, ↓cI em2, ↓k_X5_readUnit_220]
    · rw [if_neg (fun q => ol (of_decide_eq_true q))]
      refine bad3 ?_
      simp (implicitDefEqProofs := false) (disch := omega) only [↓rI_s, ↓rV_s, ↓rI_e, ↓rV_e, zc_eq, zc_ne, zc_lt, zc_ge, zc_gt, zc_le, zlt_t, zlt_f, zle_t, zle_f, zeq_t, zeq_f, lz, zadd, zsub, zmul, zneg, zb_e0, zb_e1, boo0, boo1, ua_s, ua_n, ua_ua, up_s, u2_s, u2_f, u2_c, u2_u2, Int.natCast_add, Int.zero_add, Int.add_zero, ↓reduceIte, ne_eq, not_true_eq_false, not_false_eq_true, Int.natCast_one, ↓mc_3, ↓cI x6, ↓cI v5, ↓cI v6, ↓k_X5_readUnit_188, ↓cI a0, ↓k_X5_readUnit_219, ↓k_X5_readUnit_220]
  rw [if_neg w6]
  have v6 : q_call q_MT d 110 [.ref 3, .float 6] (zM I1 A W) = _ := t0 6 (by decide) w6
  have es := c_whichSeen (W := W) (d := d) (by omega) x2 x3 hb
  have fb := lFa_b (T := T) (b := sk T n a) (e := gE (qL' T) n (sk T n a))
  generalize lFa T (sk T n a) (gE (qL' T) n (sk T n a)) = fa at es fb ⊢
  by_cases qf : fa = -1
  · rw [if_pos qf]
    have ef := c_fail (I := I1) (A := A) (W := W) (d := d) (k := 1) (p := sk T n a) (by omega)
    refine cE.bad (u2 (u2 I1 3 6 1) 3 7 (sk T n a)) A ((fd.f rfl).f rfl) fr.refl (by rw [u2_f (by decide), u2_s]) u2_s ?_
    simp (implicitDefEqProofs := false) (disch := omega) only [↓rI_s, ↓rV_s, ↓rI_e, ↓rV_e, zc_eq, zc_ne, zc_lt, zc_ge, zc_gt, zc_le, zlt_t, zlt_f, zle_t, zle_f, zeq_t, zeq_f, lz, zadd, zsub, zmul, zneg, zb_e0, zb_e1, boo0, boo1, ua_s, ua_n, ua_ua, up_s, u2_s, u2_f, u2_c, u2_u2, Int.natCast_add, Int.zero_add, Int.add_zero, ↓reduceIte, ne_eq, not_true_eq_false, not_false_eq_true, Int.natCast_one, ↓mc_3, ↓cI x6, ↓cI v5, ↓cI v6, ↓cI es, ↓zg_3_4, x3, ↓cI ef, ↓k_X5_readUnit_255]
  · rw [if_neg qf]
    have em := c_emit (W := W) (d := d) (v := 1000 + fa) (by omega) hC1 (by omega)
    have em2 := em.2
    refine cE.ok (u2 I1 19 5 (c.1 + 1)) (ua A 21 (up (A 21) c.1 (1000 + fa))) (fd.f rfl) (fr.refl.a rfl) ((x2.fr (L := [21]) (fr.refl.a rfl) rfl).fi (K := [(19, 5)]) (fi.refl.f rfl) rfl) ((u2_c (by decide)).trans (x5.trans g7)) em.1 ?_
    simp (implicitDefEqProofs := false) (disch := omega) only [↓rI_s, ↓rV_s, ↓rI_e, ↓rV_e, zc_eq, zc_ne, zc_lt, zc_ge, zc_gt, zc_le, zlt_t, zlt_f, zle_t, zle_f, zeq_t, zeq_f, lz, zadd, zsub, zmul, zneg, zb_e0, zb_e1, boo0, boo1, ua_s, ua_n, ua_ua, up_s, u2_s, u2_f, u2_c, u2_u2, Int.natCast_add, Int.zero_add, Int.add_zero, ↓reduceIte, ne_eq, not_true_eq_false, not_false_eq_true, Int.natCast_one, ↓mc_3, ↓cI x6, ↓cI v5, ↓cI v6, ↓cI es, ↓mc_19, em2, ↓k_X5_readUnit_255]
end LD
