--DEPS 9p.playc
section PD
variable {d : Nat} {I I' : Nat → Nat → Int} {A : Nat → Int → Int} {W : qWt} {T : Int → Int} {n a w : Int} {p : zPg} {R : zR}
theorem c_stepS {lev dm : Nat} {o : Int} {Rw : zPp} (hn : n ≤ 150) (hw : 0 ≤ w ∧ w ≤ 10) (ho : 0 ≤ o ∧ o ≤ 6) (hR : o < 6 → qOK R n lev 0 Rw) (hin : o < 6 → cRq W T n w 92 (o + 1) dm 0 Rw) : cRq W T n w 93 o (dm + 6) 0 (qSt T n w (decide (o < 6)) Rw) := by
  intro d a p I A hd h hQ hpa
  obtain ⟨d, rfl⟩ : ∃ e, d = e + 1 := ⟨d - 1, by omega⟩
  have han := h.2.2.2.2.2.1
  have ha0 := h.2.2.2.2.1
  have sb := sk_b (T := T) han
  have dg := gE_b (q := qL' T) sb.2
  have ew := c_word (W := W) (d := d) (by omega) h
  unfold qSt
  by_cases hw0 : gE (qL' T) n (sk T n a) = sk T n a
  · rw [if_pos hw0] at ew
    obtain ⟨I1, x1, x2, x3, x4⟩ := ew
    have hwn : ∀ i : Nat, i < 19 → ¬ wq T (sk T n a) (gE (qL' T) n (sk T n a)) i := fun i hi => by
      rw [hw0]
      exact wq_e hi
    rw [if_neg (hwn 15 (by decide)), if_neg (hwn 16 (by decide)), if_neg (hwn 9 (by decide)), if_neg (hwn 17 (by decide)), if_neg (hwn 13 (by decide)), if_neg (hwn 18 (by decide))]
    refine cE.bad I1 A (x1.wd rfl) fr.refl x2 x3 ?_
    rw [cl_X8_readStep]
    simp (implicitDefEqProofs := false) (disch := omega) only [↓rI_s, ↓rV_s, ↓rI_e, ↓rV_e, zc_eq, zc_ne, zc_lt, zc_ge, zc_gt, zc_le, zlt_t, zlt_f, zle_t, zle_f, zeq_t, zeq_f, lz, zadd, zsub, zmul, zneg, zb_e0, zb_e1, boo0, boo1, ua_s, ua_n, ua_ua, up_s, u2_s, u2_f, u2_c, u2_u2, Int.natCast_add, Int.zero_add, Int.add_zero, ↓reduceIte, ne_eq, not_true_eq_false, not_false_eq_true, Int.natCast_one, ↓k_X8_readStep_0, ↓mc_3, ↓cI x4]
  rw [if_neg hw0] at ew
  obtain ⟨I1, x1, x2, x3, x4, x5, x6⟩ := ew
  have hb : 0 ≤ sk T n a ∧ sk T n a ≤ gE (qL' T) n (sk T n a) := ⟨by omega, dg.1⟩
  have fd : fi pKc I I1 := x1.wd rfl
  have hQ1 := hQ.k x1
  have t1 : ∀ i : Nat, i < 19 → wq T (sk T n a) (gE (qL' T) n (sk T n a)) i → q_call q_MT d 110 [.ref 3, .float (UInt32.ofNat i)] (zM I1 A W) = some (.inl (some (.int (zI 1))), zM I1 A W) := fun i hi w => c_wq1 hi (by omega) x2 x3 hb w
  have t0 : ∀ i : Nat, i < 19 → ¬ wq T (sk T n a) (gE (qL' T) n (sk T n a)) i → q_call q_MT d 110 [.ref 3, .float (UInt32.ofNat i)] (zM I1 A W) = some (.inl (some (.int (zI 0))), zM I1 A W) := fun i hi w => c_wq0 hi (by omega) x2 x3 hb w
  rw [cl_X8_readStep]
  by_cases w15 : wq T (sk T n a) (gE (qL' T) n (sk T n a)) 15
  · rw [if_pos w15]
    have v15 : q_call q_MT d 110 [.ref 3, .float 15] (zM I1 A W) = _ := t1 15 (by decide) w15
    refine (c_flickS (W := W) (d := d) (k := 0) (by omega) x2 hQ1 hw (by omega)).up fd fr.refl x5 (fun v h hv e => ?_)
    rcases hv with rfl | rfl <;> simp (implicitDefEqProofs := false) (disch := omega) only [↓rI_s, ↓rV_s, ↓rI_e, ↓rV_e, zc_eq, zc_ne, zc_lt, zc_ge, zc_gt, zc_le, zlt_t, zlt_f, zle_t, zle_f, zeq_t, zeq_f, lz, zadd, zsub, zmul, zneg, zb_e0, zb_e1, boo0, boo1, ua_s, ua_n, ua_ua, up_s, u2_s, u2_f, u2_c, u2_u2, Int.natCast_add, Int.zero_add, Int.add_zero, ↓reduceIte, ne_eq, not_true_eq_false, not_false_eq_true, Int.natCast_one, ↓k_X8_readStep_0, ↓mc_3, ↓cI x6, ↓cI v15, ↓mc_41, ↓cI e]
  rw [if_neg w15]
  have v15 : q_call q_MT d 110 [.ref 3, .float 15] (zM I1 A W) = _ := t0 15 (by decide) w15
  by_cases w16 : wq T (sk T n a) (gE (qL' T) n (sk T n a)) 16
  · rw [if_pos w16]
    have v16 : q_call q_MT d 110 [.ref 3, .float 16] (zM I1 A W) = _ := t1 16 (by decide) w16
    refine (c_flickS (W := W) (d := d) (k := 1) (by omega) x2 hQ1 hw (by omega)).up fd fr.refl x5 (fun v h hv e => ?_)
    rcases hv with rfl | rfl <;> simp (implicitDefEqProofs := false) (disch := omega) only [↓rI_s, ↓rV_s, ↓rI_e, ↓rV_e, zc_eq, zc_ne, zc_lt, zc_ge, zc_gt, zc_le, zlt_t, zlt_f, zle_t, zle_f, zeq_t, zeq_f, lz, zadd, zsub, zmul, zneg, zb_e0, zb_e1, boo0, boo1, ua_s, ua_n, ua_ua, up_s, u2_s, u2_f, u2_c, u2_u2, Int.natCast_add, Int.zero_add, Int.add_zero, ↓reduceIte, ne_eq, not_true_eq_false, not_false_eq_true, Int.natCast_one, ↓k_X8_readStep_0, ↓mc_3, ↓cI x6, ↓cI v15, ↓cI v16, ↓mc_41, ↓cI e]
  rw [if_neg w16]
  have v16 : q_call q_MT d 110 [.ref 3, .float 16] (zM I1 A W) = _ := t0 16 (by decide) w16
  by_cases w9 : wq T (sk T n a) (gE (qL' T) n (sk T n a)) 9
  · rw [if_pos w9]
    have v9 : q_call q_MT d 110 [.ref 3, .float 9] (zM I1 A W) = _ := t1 9 (by decide) w9
    have e1 := c_number (lo := 0) (hi := 9) (W := W) (d := d) (by omega) x2 (by omega) (by omega)
    rcases q1 : numS T n 0 9 (gE (qL' T) n (sk T n a)) with ⟨k, p'⟩ | ⟨e, v⟩
    · rw [q1] at e1
      obtain ⟨I2, y1, y2, y3, y4⟩ := e1
      refine cE.bad I2 A (fd.tr (y1.wd rfl)) fr.refl y2 y3 ?_
      simp (implicitDefEqProofs := false) (disch := omega) only [↓rI_s, ↓rV_s, ↓rI_e, ↓rV_e, zc_eq, zc_ne, zc_lt, zc_ge, zc_gt, zc_le, zlt_t, zlt_f, zle_t, zle_f, zeq_t, zeq_f, lz, zadd, zsub, zmul, zneg, zb_e0, zb_e1, boo0, boo1, ua_s, ua_n, ua_ua, up_s, u2_s, u2_f, u2_c, u2_u2, Int.natCast_add, Int.zero_add, Int.add_zero, ↓reduceIte, ne_eq, not_true_eq_false, not_false_eq_true, Int.natCast_one, ↓k_X8_readStep_0, ↓mc_3, ↓cI x6, ↓cI v15, ↓cI v16, ↓cI v9, ↓cI y4, ↓k_X8_readStep_77, ↓k_X8_readStep_78]
    · rw [q1] at e1
      obtain ⟨I2, y1, y2, y3, y4, y5, y6, y7⟩ := e1
      have em := c_add (W := W) (d := d) (k := 2) (x := v) (y := 0) (by omega) (hQ1.k y1) (by omega)
      have em2 := em.2
      refine cE.ok (u2 I2 41 3 (p.1 + 1)) (ua (ua (ua A 42 (up (A 42) p.1 2)) 43 (up (A 43) p.1 v)) 44 (up (A 44) p.1 0)) ((fd.tr (y1.wd rfl)).f rfl) fr3 y2.ad ((u2_c (by decide)).trans (y6.trans x5)) em.1 ?_
      simp (implicitDefEqProofs := false) (disch := omega) only [↓rI_s, ↓rV_s, ↓rI_e, ↓rV_e, zc_eq, zc_ne, zc_lt, zc_ge, zc_gt, zc_le, zlt_t, zlt_f, zle_t, zle_f, zeq_t, zeq_f, lz, zadd, zsub, zmul, zneg, zb_e0, zb_e1, boo0, boo1, ua_s, ua_n, ua_ua, up_s, u2_s, u2_f, u2_c, u2_u2, Int.natCast_add, Int.zero_add, Int.add_zero, ↓reduceIte, ne_eq, not_true_eq_false, not_false_eq_true, Int.natCast_one, ↓k_X8_readStep_0, ↓mc_3, ↓cI x6, ↓cI v15, ↓cI v16, ↓cI v9, ↓cI y7, ↓zg_3_5, y4, ↓mc_41, ↓cI em2, ↓k_X8_readStep_78]
  rw [if_neg w9]
  have v9 : q_call q_MT d 110 [.ref 3, .float 9] (zM I1 A W) = _ := t0 9 (by decide) w9
  by_cases w17 : wq T (sk T n a) (gE (qL' T) n (sk T n a)) 17
  · rw [if_pos w17]
    have v17 : q_call q_MT d 110 [.ref 3, .float 17] (zM I1 A W) = _ := t1 17 (by decide) w17
    have em := c_add (W := W) (d := d) (k := 3) (x := 0) (y := 0) (by omega) hQ1 (by omega)
    have em2 := em.2
    refine cE.ok (u2 I1 41 3 (p.1 + 1)) (ua (ua (ua A 42 (up (A 42) p.1 3)) 43 (up (A 43) p.1 0)) 44 (up (A 44) p.1 0)) (fd.f rfl) fr3 x2.ad ((u2_c (by decide)).trans x5) em.1 ?_
    simp (implicitDefEqProofs := false) (disch := omega) only [↓rI_s, ↓rV_s, ↓rI_e, ↓rV_e, zc_eq, zc_ne, zc_lt, zc_ge, zc_gt, zc_le, zlt_t, zlt_f, zle_t, zle_f, zeq_t, zeq_f, lz, zadd, zsub, zmul, zneg, zb_e0, zb_e1, boo0, boo1, ua_s, ua_n, ua_ua, up_s, u2_s, u2_f, u2_c, u2_u2, Int.natCast_add, Int.zero_add, Int.add_zero, ↓reduceIte, ne_eq, not_true_eq_false, not_false_eq_true, Int.natCast_one, ↓k_X8_readStep_0, ↓mc_3, ↓cI x6, ↓cI v15, ↓cI v16, ↓cI v9, ↓cI v17, ↓mc_41, ↓cI em2]
  rw [if_neg w17]
  have v17 : q_call q_MT d 110 [.ref 3, .float 17] (zM I1 A W) = _ := t0 17 (by decide) w17
  by_cases w13 : wq T (sk T n a) (gE (qL' T) n (sk T n a)) 13
  · rw [if_pos w13]
    have v13 : q_call q_MT d 110 [.ref 3, .float 13] (zM I1 A W) = _ := t1 13 (by decide) w13
    have em := c_add (W := W) (d := d) (k := 4) (x := 0) (y := 0) (by omega) hQ1 (by omega)
    have em2 := em.2
    refine cE.ok (u2 I1 41 3 (p.1 + 1)) (ua (ua (ua A 42 (up (A 42) p.1 4)) 43 (up (A 43) p.1 0)) 44 (up (A 44) p.1 0)) (fd.f rfl) fr3 x2.ad ((u2_c (by decide)).trans x5) em.1 ?_
    simp (implicitDefEqProofs := false) (disch := omega) only [↓rI_s, ↓rV_s, ↓rI_e, ↓rV_e, zc_eq, zc_ne, zc_lt, zc_ge, zc_gt, zc_le, zlt_t, zlt_f, zle_t, zle_f, zeq_t, zeq_f, lz, zadd, zsub, zmul, zneg, zb_e0, zb_e1, boo0, boo1, ua_s, ua_n, ua_ua, up_s, u2_s, u2_f, u2_c, u2_u2, Int.natCast_add, Int.zero_add, Int.add_zero, ↓reduceIte, ne_eq, not_true_eq_false, not_false_eq_true, Int.natCast_one, ↓k_X8_readStep_0, ↓mc_3, ↓cI x6, ↓cI v15, ↓cI v16, ↓cI v9, ↓cI v17, ↓cI v13, ↓mc_41, ↓cI em2]
  rw [if_neg w13]
  have v13 : q_call q_MT d 110 [.ref 3, .float 13] (zM I1 A W) = _ := t0 13 (by decide) w13
  by_cases w18 : wq T (sk T n a) (gE (qL' T) n (sk T n a)) 18
  · have wl := wq_l w18
    have L18 : ((q_strs.getD 18 []).length : Int) = 5 := rfl
    rw [L18] at wl
    rw [if_pos w18]
    have v18 : q_call q_MT d 110 [.ref 3, .float 18] (zM I1 A W) = _ := t1 18 (by decide) w18
    have a1 := c_allow1 (W := W) (A := A) (I := I1) (d := d) (by omega) x3
    have a0 := c_allow0 (W := W) (A := A) (I := I1) (d := d) (by omega) x3
    by_cases ol : o < 6
    · rw [if_pos (decide_eq_true ol)]
      refine (c_again (W := W) hn (hR ol) (hin ol) d _ p I1 A (by omega) x2 hQ1 (by omega)).up fd fr.refl x5 (fun v h hv e => ?_)
      rcases hv with rfl | rfl <;> simp (implicitDefEqProofs := false) (disch := omega) only [↓rI_s, ↓rV_s, ↓rI_e, ↓rV_e, zc_eq, zc_ne, zc_lt, zc_ge, zc_gt, zc_le, zlt_t, zlt_f, zle_t, zle_f, zeq_t, zeq_f, lz, zadd, zsub, zmul, zneg, zb_e0, zb_e1, boo0, boo1, ua_s, ua_n, ua_ua, up_s, u2_s, u2_f, u2_c, u2_u2, Int.natCast_add, Int.zero_add, Int.add_zero, ↓reduceIte, ne_eq, not_true_eq_false, not_false_eq_true, Int.natCast_one, ↓k_X8_readStep_0, ↓mc_3, ↓cI x6, ↓cI v15, ↓cI v16, ↓cI v9, ↓cI v17, ↓cI v13, ↓cI v18, ↓k_X8_readStep_134, ↓cI a1, ↓mc_41, ↓cI e, ↓k_X8_readStep_155, ↓k_X8_readStep_156]
    · rw [if_neg (fun q => ol (of_decide_eq_true q))]
      refine cE.bad (u2 (u2 I1 3 6 3) 3 7 (sk T n a)) A ((fd.f rfl).f rfl) fr.refl (by rw [u2_f (by decide), u2_s]) u2_s ?_
      simp (implicitDefEqProofs := false) (disch := omega) only [↓rI_s, ↓rV_s, ↓rI_e, ↓rV_e, zc_eq, zc_ne, zc_lt, zc_ge, zc_gt, zc_le, zlt_t, zlt_f, zle_t, zle_f, zeq_t, zeq_f, lz, zadd, zsub, zmul, zneg, zb_e0, zb_e1, boo0, boo1, ua_s, ua_n, ua_ua, up_s, u2_s, u2_f, u2_c, u2_u2, Int.natCast_add, Int.zero_add, Int.add_zero, ↓reduceIte, ne_eq, not_true_eq_false, not_false_eq_true, Int.natCast_one, ↓k_X8_readStep_0, ↓mc_3, ↓cI x6, ↓cI v15, ↓cI v16, ↓cI v9, ↓cI v17, ↓cI v13, ↓cI v18, ↓k_X8_readStep_134, ↓cI a0, ↓k_X8_readStep_155, ↓k_X8_readStep_156]
  rw [if_neg w18]
  have v18 : q_call q_MT d 110 [.ref 3, .float 18] (zM I1 A W) = _ := t0 18 (by decide) w18
  have ef := c_fail (I := I1) (A := A) (W := W) (d := d) (k := 1) (p := sk T n a) (by omega)
  refine cE.bad (u2 (u2 I1 3 6 1) 3 7 (sk T n a)) A ((fd.f rfl).f rfl) fr.refl (by rw [u2_f (by decide), u2_s]) u2_s ?_
  simp (implicitDefEqProofs := false) (disch := omega) only [↓rI_s, ↓rV_s, ↓rI_e, ↓rV_e, zc_eq, zc_ne, zc_lt, zc_ge, zc_gt, zc_le, zlt_t, zlt_f, zle_t, zle_f, zeq_t, zeq_f, lz, zadd, zsub, zmul, zneg, zb_e0, zb_e1, boo0, boo1, ua_s, ua_n, ua_ua, up_s, u2_s, u2_f, u2_c, u2_u2, Int.natCast_add, Int.zero_add, Int.add_zero, ↓reduceIte, ne_eq, not_true_eq_false, not_false_eq_true, Int.natCast_one, ↓k_X8_readStep_0, ↓mc_3, ↓cI x6, ↓cI v15, ↓cI v16, ↓cI v9, ↓cI v17, ↓cI v13, ↓cI v18, ↓zg_3_4, x3, ↓cI ef]
theorem qSt_sk {o : Bool} {Rw : zPp} (h : a ≤ n) : qSt T n w o Rw (sk T n a) p = qSt T n w o Rw a p := by
  unfold qSt
  rw [sk_sk h]
theorem qv_sk {l : Nat} (h : a ≤ n) : qv T n w l (sk T n a) p = qv T n w l a p := by
  cases l with
  | zero => exact qSt_sk h
  | succ l => exact qSt_sk h
theorem c_rowLoop {lev l dm : Nat} {o cz : Int} {z : Bool} (hn : n ≤ 150) (hz : (z = true ∧ cz = 93) ∨ (z = false ∧ cz = -1)) (hS : qOK R n lev 3 (qv T n w l)) (hin : cRq W T n w 93 o dm 0 (qv T n w l)) (hd : dm ≤ d ∧ 3 ≤ d) : ∀ (m : Nat) (a : Int) (p : zPg) (i : Nat) (I : Nat → Nat → Int) (A : Nat → Int → Int), (n - a).toNat < m → 4 * (i : Int) ≤ a → 4 * (p.1 : Int) ≤ a → cTx T n a I A → cQ w p I A → cE T n pKc pLc I A W (q_run qm_X8_readRow (q_call q_MT d) 14 [.ref 41, .ref 3, .int (zI o), .int (zI cz), .int (zI i)] [] (zM I A W)) (cQ w) (qRw T n z (qv T n w l) m a p) := by
  intro m
  induction m with
  | zero => intro a p i I A hm; omega
  | succ m ih =>
    intro a p i I A hm hi hpa h hQ
    have han := h.2.2.2.2.2.1
    have ha0 := h.2.2.2.2.1
    have sb := sk_b (T := T) han
    have tb := h.2.1 (sk T n a)
    have ep := c_peek (W := W) (d := d) (by omega) h
    have h0 : cTx T n (sk T n a) (u2 (u2 I 3 3 (sk T n a)) 3 4 (sk T n a)) A := h.u (by rw [u2_f (by decide), u2_f (by decide)]) (by rw [u2_f (by decide), u2_s]) (by omega) sb.2
    have f0 : fi xK I (u2 (u2 I 3 3 (sk T n a)) 3 4 (sk T n a)) := (fi.refl.f rfl).f rfl
    have g7 : u2 (u2 I 3 3 (sk T n a)) 3 4 (sk T n a) 3 7 = I 3 7 := by rw [u2_f (by decide), u2_f (by decide)]
    generalize u2 (u2 I 3 3 (sk T n a)) 3 4 (sk T n a) = I0 at ep h0 f0 g7
    have fc : fi pKc I I0 := f0.wd rfl
    have hQ0 := hQ.k f0
    have pv : ∃ pv : Int, (pv = cz ↔ qEnd T n z a) ∧ -1 ≤ pv ∧ pv ≤ 255 ∧ q_call q_MT d 105 [.ref 3] (zM I A W) = some (.inl (some (.int (zI pv))), zM I0 A W) := by
      unfold qEnd
      by_cases q : sk T n a < n
      · rw [if_pos q] at ep
        refine ⟨T (sk T n a), ?_, by omega, by omega, ep⟩
        rcases hz with ⟨rfl, rfl⟩ | ⟨rfl, rfl⟩
        · rw [if_pos rfl]
          exact ⟨fun e => ⟨q, e⟩, fun e => e.2⟩
        · rw [if_neg (by decide)]
          exact ⟨fun e => by omega, fun e => absurd q e⟩
      · rw [if_neg q] at ep
        refine ⟨-1, ?_, by omega, by omega, ep⟩
        rcases hz with ⟨rfl, rfl⟩ | ⟨rfl, rfl⟩
        · rw [if_pos rfl]
          exact ⟨fun e => by omega, fun e => absurd e.1 q⟩
        · rw [if_neg (by decide)]
          exact ⟨fun _ => q, fun _ => rfl⟩
    clear ep
    obtain ⟨pv, pv1, pv2, pv3, ep⟩ := pv
    have hcz : cz = 93 ∨ cz = -1 := by omega
    unfold qRw
    by_cases q : qEnd T n z a
    · rw [if_pos q]
      have e := pv1.mpr q
      refine cE.ok I0 A fc fr.refl h0 g7 hQ0 ?_
      rw [k_X8_readRow_14]
      simp (implicitDefEqProofs := false) (disch := omega) only [↓rI_s, ↓rV_s, ↓rI_e, ↓rV_e, zc_eq, zc_ne, zc_lt, zc_ge, zc_gt, zc_le, zlt_t, zlt_f, zle_t, zle_f, zeq_t, zeq_f, lz, zadd, zsub, zmul, zneg, zb_e0, zb_e1, boo0, boo1, ua_s, ua_n, ua_ua, up_s, u2_s, u2_f, u2_c, u2_u2, Int.natCast_add, Int.zero_add, Int.add_zero, ↓reduceIte, ne_eq, not_true_eq_false, not_false_eq_true, Int.natCast_one, ↓mc_3, ↓cI ep, ↓k_X8_readRow_56]
    · rw [if_neg q]
      have e : pv ≠ cz := fun r => q (pv1.mp r)
      have e1 := hin d (sk T n a) p I0 A (by omega) h0 hQ0 (by omega)
      rw [qv_sk han] at e1
      unfold qSs
      rcases q1 : qv T n w l a p with ⟨k, p'⟩ | ⟨a1, p1⟩
      · rw [q1] at e1
        obtain ⟨I1, A1, x1, x2, x3, x4, x5⟩ := e1
        refine cE.bad I1 A1 (fc.tr x1) x2 x3 x4 ?_
        rw [k_X8_readRow_14]
        simp (implicitDefEqProofs := false) (disch := omega) only [↓rI_s, ↓rV_s, ↓rI_e, ↓rV_e, zc_eq, zc_ne, zc_lt, zc_ge, zc_gt, zc_le, zlt_t, zlt_f, zle_t, zle_f, zeq_t, zeq_f, lz, zadd, zsub, zmul, zneg, zb_e0, zb_e1, boo0, boo1, ua_s, ua_n, ua_ua, up_s, u2_s, u2_f, u2_c, u2_u2, Int.natCast_add, Int.zero_add, Int.add_zero, ↓reduceIte, ne_eq, not_true_eq_false, not_false_eq_true, Int.natCast_one, ↓mc_3, ↓cI ep, ↓mc_41, ↓cI x5, ↓k_X8_readRow_48]
      rw [q1] at e1
      obtain ⟨r1, r2, r3, r4⟩ := hS.2 _ _ _ _ ha0 han hpa q1
      rw [if_pos rfl] at r3
      obtain ⟨I1, A1, x1, x2, x3, x4, x5, x6⟩ := e1
      have e2 := c_sign (c := 59) (W := W) (d := d) (by omega) x3 (by omega)
      show cE _ _ _ _ _ _ _ _ _ (bd (bd (sgnS T n 59 a1) fun e => .inr (e, p1)) fun x => qRw T n z (qv T n w l) m x.1 x.2)
      rcases q2 : sgnS T n 59 a1 with ⟨k, p'⟩ | a2
      · rw [q2] at e2
        obtain ⟨I2, y1, y2, y3, y4⟩ := e2
        refine cE.bad I2 A1 ((fc.tr x1).tr (y1.wd rfl)) x2 y2 y3 ?_
        rw [k_X8_readRow_14]
        simp (implicitDefEqProofs := false) (disch := omega) only [↓rI_s, ↓rV_s, ↓rI_e, ↓rV_e, zc_eq, zc_ne, zc_lt, zc_ge, zc_gt, zc_le, zlt_t, zlt_f, zle_t, zle_f, zeq_t, zeq_f, lz, zadd, zsub, zmul, zneg, zb_e0, zb_e1, boo0, boo1, ua_s, ua_n, ua_ua, up_s, u2_s, u2_f, u2_c, u2_u2, Int.natCast_add, Int.zero_add, Int.add_zero, ↓reduceIte, ne_eq, not_true_eq_false, not_false_eq_true, Int.natCast_one, ↓mc_3, ↓cI ep, ↓mc_41, ↓cI x6, ↓cI y4, ↓k_X8_readRow_48]
      · rw [q2] at e2
        have r5 := sgnS_r r2 q2
        obtain ⟨I2, y1, y2, y3, y4, y5⟩ := e2
        have y := ih a2 p1 (i + 1) I2 A1 (by omega) (by omega) (by omega) y2 (x5.k y1)
        refine y.up ((fc.tr x1).tr (y1.wd rfl)) x2 (y4.trans (x4.trans g7)) (fun v hh hv e' => ?_)
        rw [← e', k_X8_readRow_14]
        simp (implicitDefEqProofs := false) (disch := omega) only [↓rI_s, ↓rV_s, ↓rI_e, ↓rV_e, zc_eq, zc_ne, zc_lt, zc_ge, zc_gt, zc_le, zlt_t, zlt_f, zle_t, zle_f, zeq_t, zeq_f, lz, zadd, zsub, zmul, zneg, zb_e0, zb_e1, boo0, boo1, ua_s, ua_n, ua_ua, up_s, u2_s, u2_f, u2_c, u2_u2, Int.natCast_add, Int.zero_add, Int.add_zero, ↓reduceIte, ne_eq, not_true_eq_false, not_false_eq_true, Int.natCast_one, ↓mc_3, ↓cI ep, ↓mc_41, ↓cI x6, ↓cI y5]
theorem c_rowS {lev l dm : Nat} {o : Int} {z : Bool} (hn : n ≤ 150) (ho : 0 ≤ o ∧ o ≤ 6) (hz : z = decide (o ≠ 0)) (hS : qOK R n lev 3 (qv T n w l)) (hin : cRq W T n w 93 o dm 0 (qv T n w l)) : cRq W T n w 92 o (dm + 4) 0 (qRw T n z (qv T n w l) 151) := by
  intro d a p I A hd h hQ hpa
  obtain ⟨d, rfl⟩ : ∃ e, d = e + 1 := ⟨d - 1, by omega⟩
  have han := h.2.2.2.2.2.1
  have ha0 := h.2.2.2.2.1
  rw [cl_X8_readRow]
  by_cases c : o = 0
  · subst c
    have y := c_rowLoop (W := W) (d := d) (z := z) (cz := -1) hn (.inr ⟨hz, rfl⟩) hS hin ⟨by omega, by omega⟩ 151 a p 0 I A (by omega) (by omega) (by omega) h hQ
    refine y.up fi.refl fr.refl rfl (fun v hh hv e => ?_)
    rw [← e]
    simp (implicitDefEqProofs := false) (disch := omega) only [↓rI_s, ↓rV_s, ↓rI_e, ↓rV_e, zc_eq, zc_ne, zc_lt, zc_ge, zc_gt, zc_le, zlt_t, zlt_f, zle_t, zle_f, zeq_t, zeq_f, lz, zadd, zsub, zmul, zneg, zb_e0, zb_e1, boo0, boo1, ua_s, ua_n, ua_ua, up_s, u2_s, u2_f, u2_c, u2_u2, Int.natCast_add, Int.zero_add, Int.add_zero, ↓reduceIte, ne_eq, not_true_eq_false, not_false_eq_true, Int.natCast_one, ↓k_X8_readRow_0, ↓k_X8_readRow_10]
    rfl
  · have y := c_rowLoop (W := W) (d := d) (z := z) (cz := 93) hn (.inl ⟨by rw [hz]; exact decide_eq_true c, rfl⟩) hS hin ⟨by omega, by omega⟩ 151 a p 0 I A (by omega) (by omega) (by omega) h hQ
    refine y.up fi.refl fr.refl rfl (fun v hh hv e => ?_)
    rw [← e]
    simp (implicitDefEqProofs := false) (disch := omega) only [↓rI_s, ↓rV_s, ↓rI_e, ↓rV_e, zc_eq, zc_ne, zc_lt, zc_ge, zc_gt, zc_le, zlt_t, zlt_f, zle_t, zle_f, zeq_t, zeq_f, lz, zadd, zsub, zmul, zneg, zb_e0, zb_e1, boo0, boo1, ua_s, ua_n, ua_ua, up_s, u2_s, u2_f, u2_c, u2_u2, Int.natCast_add, Int.zero_add, Int.add_zero, ↓reduceIte, ne_eq, not_true_eq_false, not_false_eq_true, Int.natCast_one, ↓k_X8_readRow_0, ↓k_X8_readRow_10]
    rfl
theorem c_qv (hn : n ≤ 150) (hw : w = rW R) (hw10 : 0 ≤ w ∧ w ≤ 10) : ∀ l : Nat, l ≤ 6 → cRq W T n w 93 (6 - (l : Int)) (6 + 10 * l) 0 (qv T n w l)
  | 0, _ => by
    have := c_stepS (W := W) (T := T) (n := n) (w := w) (R := R) (lev := 0) (Rw := fun _ _ => .inl (0, 0)) (o := 6) (dm := 0) hn hw10 (by omega) (fun h => absurd h (by decide)) (fun h => absurd h (by decide))
    exact this
  | l + 1, hl => by
    have ih := c_qv hn hw hw10 l (by omega)
    have k := qv_ok (T := T) (R := R) hn hw l
    have e1 := c_rowS (W := W) (R := R) (z := true) hn (show 0 ≤ 6 - (l : Int) ∧ 6 - (l : Int) ≤ 6 by omega) (by rw [decide_eq_true (show 6 - (l : Int) ≠ 0 by omega)]) k ih
    have kr : qOK R n l 0 (qRw T n true (qv T n w l) 151) := by
      have ih := qRw_ok (z := true) (qSs_ok (T := T) k) 151
      refine ⟨fun a p k q a0 a1 ap h => (ih a p a0 a1 ap (by omega)).1 _ _ h, fun a p e p' a0 a1 ap h => ?_⟩
      obtain ⟨s1, s2, s3, s4⟩ := (ih a p a0 a1 ap (by omega)).2 _ _ h
      rw [if_neg (by decide)]
      exact ⟨by omega, s2, by omega, s4⟩
    have := c_stepS (W := W) (T := T) (n := n) (w := w) (R := R) (lev := l) (Rw := qRw T n true (qv T n w l) 151) (o := 6 - ((l + 1 : Nat) : Int)) (dm := 6 + 10 * l + 4) hn hw10 (by omega) (fun _ => kr) (fun _ => by
      rw [show 6 - ((l + 1 : Nat) : Int) + 1 = 6 - (l : Int) by omega]
      exact e1)
    rw [decide_eq_true (show 6 - ((l + 1 : Nat) : Int) < 6 by omega)] at this
    rw [show 6 + 10 * (l + 1) = 6 + 10 * l + 4 + 6 by omega]
    exact this
end PD
