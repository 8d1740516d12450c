--DEPS 9g.lawp
/-! LAW, in the class. -/
abbrev lKc : List (Nat × Nat) := [(3, 3), (3, 4), (3, 5), (3, 6), (3, 7), (19, 5)]
def cC (c : zC) (I : Nat → Nat → Int) (A : Nat → Int → Int) : Prop := I 19 5 = c.1 ∧ ∀ k : Nat, k < c.1 → A 21 k = c.2 k
section LC
variable {d : Nat} {I I' : Nat → Nat → Int} {A : Nat → Int → Int} {W : qWt} {T : Int → Int} {n a : Int} {c : zC}
theorem cC.k (h : cC c I A) (f : fi xK I I') : cC c I' A := ⟨(f 19 5 rfl).trans h.1, h.2⟩
theorem c_emit {v : Int} (hd : 1 ≤ d) (h : cC c I A) (hc : c.1 < 150) : cC (lEm v c) (u2 I 19 5 (c.1 + 1)) (ua A 21 (up (A 21) c.1 v)) ∧ q_call q_MT d 71 [.ref 19, .int (zI v)] (zM I A W) = some (.inl (some (.int (zI 1))), zM (u2 I 19 5 (c.1 + 1)) (ua A 21 (up (A 21) c.1 v)) W) := by
  obtain ⟨d, rfl⟩ : ∃ e, d = e + 1 := ⟨d - 1, by omega⟩
  obtain ⟨h1, h2⟩ := h
  refine ⟨⟨u2_s, fun k hk => ?_⟩, ?_⟩
  · have hk : k < c.1 + 1 := hk
    rw [ua_s]
    show up (A 21) c.1 v k = up c.2 c.1 v k
    by_cases e : (k : Int) = c.1
    · rw [e, up_s, up_s]
    · rw [up_n e, up_n e]; exact h2 k (by omega)
  · rw [cl_X5_emit]
    simp (implicitDefEqProofs := false) (disch := omega) only [↓rI_s, ↓rV_s, ↓rI_e, ↓rV_e, zc_eq, zc_ne, zc_lt, zc_ge, zc_gt, zc_le, zlt_t, zlt_f, zle_t, zle_f, zeq_t, zeq_f, lz, zadd, zsub, zmul, zneg, zb_e0, zb_e1, boo0, boo1, ua_s, ua_n, ua_ua, up_s, u2_s, u2_f, u2_c, u2_u2, Int.natCast_add, Int.zero_add, Int.add_zero, ↓reduceIte, ne_eq, not_true_eq_false, not_false_eq_true, Int.natCast_one, ↓k_X5_emit_0, ↓zg_19_5, h1, ↓zg_19_1, ↓zn_21, zs_21, ↓zp_19_5, ↓k_X5_emit_39]
theorem c_whichSeen {b e : Int} (hd : 2 ≤ d) (h : cTx T n e I A) (h4 : I 3 4 = b) (hb : 0 ≤ b ∧ b ≤ e) : q_call q_MT d 70 [.ref 3] (zM I A W) = some (.inl (some (.int (zI (lFa T b e)))), zM I A W) := by
  obtain ⟨d, rfl⟩ : ∃ e, d = e + 1 := ⟨d - 1, by omega⟩
  have t1 : ∀ i : Nat, i < 19 → wq T b e i → q_call q_MT d 110 [.ref 3, .float (UInt32.ofNat i)] (zM I A W) = some (.inl (some (.int (zI 1))), zM I A W) := fun i hi w => c_wq1 hi (by omega) h h4 hb w
  have t0 : ∀ i : Nat, i < 19 → ¬ wq T b e i → q_call q_MT d 110 [.ref 3, .float (UInt32.ofNat i)] (zM I A W) = some (.inl (some (.int (zI 0))), zM I A W) := fun i hi w => c_wq0 hi (by omega) h h4 hb w
  rw [cl_X5_whichSeen]
  unfold lFa
  by_cases w7 : wq T b e 7
  · have v7 : q_call q_MT d 110 [.ref 3, .float 7] (zM I A W) = _ := t1 7 (by decide) w7
    rw [if_pos w7]
    simp (implicitDefEqProofs := false) (disch := omega) only [↓rI_s, ↓rV_s, ↓rI_e, ↓rV_e, zc_eq, zc_ne, zc_lt, zc_ge, zc_gt, zc_le, zlt_t, zlt_f, zle_t, zle_f, zeq_t, zeq_f, lz, zadd, zsub, zmul, zneg, zb_e0, zb_e1, boo0, boo1, ua_s, ua_n, ua_ua, up_s, u2_s, u2_f, u2_c, u2_u2, Int.natCast_add, Int.zero_add, Int.add_zero, ↓reduceIte, ne_eq, not_true_eq_false, not_false_eq_true, Int.natCast_one, ↓k_X5_whichSeen_0, ↓mc_3, ↓cI v7, ↓k_X5_whichSeen_87, ↓k_X5_whichSeen_105]
  have v7 : q_call q_MT d 110 [.ref 3, .float 7] (zM I A W) = _ := t0 7 (by decide) w7
  rw [if_neg w7]
  by_cases w8 : wq T b e 8
  · have v8 : q_call q_MT d 110 [.ref 3, .float 8] (zM I A W) = _ := t1 8 (by decide) w8
    rw [if_pos w8]
    simp (implicitDefEqProofs := false) (disch := omega) only [↓rI_s, ↓rV_s, ↓rI_e, ↓rV_e, zc_eq, zc_ne, zc_lt, zc_ge, zc_gt, zc_le, zlt_t, zlt_f, zle_t, zle_f, zeq_t, zeq_f, lz, zadd, zsub, zmul, zneg, zb_e0, zb_e1, boo0, boo1, ua_s, ua_n, ua_ua, up_s, u2_s, u2_f, u2_c, u2_u2, Int.natCast_add, Int.zero_add, Int.add_zero, ↓reduceIte, ne_eq, not_true_eq_false, not_false_eq_true, Int.natCast_one, ↓k_X5_whichSeen_0, ↓mc_3, ↓cI v7, ↓cI v8, ↓k_X5_whichSeen_87, ↓k_X5_whichSeen_105]
  have v8 : q_call q_MT d 110 [.ref 3, .float 8] (zM I A W) = _ := t0 8 (by decide) w8
  rw [if_neg w8]
  by_cases w4 : wq T b e 4
  · have v4 : q_call q_MT d 110 [.ref 3, .float 4] (zM I A W) = _ := t1 4 (by decide) w4
    rw [if_pos w4]
    simp (implicitDefEqProofs := false) (disch := omega) only [↓rI_s, ↓rV_s, ↓rI_e, ↓rV_e, zc_eq, zc_ne, zc_lt, zc_ge, zc_gt, zc_le, zlt_t, zlt_f, zle_t, zle_f, zeq_t, zeq_f, lz, zadd, zsub, zmul, zneg, zb_e0, zb_e1, boo0, boo1, ua_s, ua_n, ua_ua, up_s, u2_s, u2_f, u2_c, u2_u2, Int.natCast_add, Int.zero_add, Int.add_zero, ↓reduceIte, ne_eq, not_true_eq_false, not_false_eq_true, Int.natCast_one, ↓k_X5_whichSeen_0, ↓mc_3, ↓cI v7, ↓cI v8, ↓cI v4, ↓k_X5_whichSeen_87, ↓k_X5_whichSeen_105]
  have v4 : q_call q_MT d 110 [.ref 3, .float 4] (zM I A W) = _ := t0 4 (by decide) w4
  rw [if_neg w4]
  by_cases w9 : wq T b e 9
  · have v9 : q_call q_MT d 110 [.ref 3, .float 9] (zM I A W) = _ := t1 9 (by decide) w9
    rw [if_pos w9]
    simp (implicitDefEqProofs := false) (disch := omega) only [↓rI_s, ↓rV_s, ↓rI_e, ↓rV_e, zc_eq, zc_ne, zc_lt, zc_ge, zc_gt, zc_le, zlt_t, zlt_f, zle_t, zle_f, zeq_t, zeq_f, lz, zadd, zsub, zmul, zneg, zb_e0, zb_e1, boo0, boo1, ua_s, ua_n, ua_ua, up_s, u2_s, u2_f, u2_c, u2_u2, Int.natCast_add, Int.zero_add, Int.add_zero, ↓reduceIte, ne_eq, not_true_eq_false, not_false_eq_true, Int.natCast_one, ↓k_X5_whichSeen_0, ↓mc_3, ↓cI v7, ↓cI v8, ↓cI v4, ↓cI v9, ↓k_X5_whichSeen_87, ↓k_X5_whichSeen_105]
  have v9 : q_call q_MT d 110 [.ref 3, .float 9] (zM I A W) = _ := t0 9 (by decide) w9
  rw [if_neg w9]
  by_cases w10 : wq T b e 10
  · have v10 : q_call q_MT d 110 [.ref 3, .float 10] (zM I A W) = _ := t1 10 (by decide) w10
    rw [if_pos w10]
    simp (implicitDefEqProofs := false) (disch := omega) only [↓rI_s, ↓rV_s, ↓rI_e, ↓rV_e, zc_eq, zc_ne, zc_lt, zc_ge, zc_gt, zc_le, zlt_t, zlt_f, zle_t, zle_f, zeq_t, zeq_f, lz, zadd, zsub, zmul, zneg, zb_e0, zb_e1, boo0, boo1, ua_s, ua_n, ua_ua, up_s, u2_s, u2_f, u2_c, u2_u2, Int.natCast_add, Int.zero_add, Int.add_zero, ↓reduceIte, ne_eq, not_true_eq_false, not_false_eq_true, Int.natCast_one, ↓k_X5_whichSeen_0, ↓mc_3, ↓cI v7, ↓cI v8, ↓cI v4, ↓cI v9, ↓cI v10, ↓k_X5_whichSeen_87, ↓k_X5_whichSeen_105]
  have v10 : q_call q_MT d 110 [.ref 3, .float 10] (zM I A W) = _ := t0 10 (by decide) w10
  rw [if_neg w10]
  by_cases w11 : wq T b e 11
  · have v11 : q_call q_MT d 110 [.ref 3, .float 11] (zM I A W) = _ := t1 11 (by decide) w11
    rw [if_pos w11]
    simp (implicitDefEqProofs := false) (disch := omega) only [↓rI_s, ↓rV_s, ↓rI_e, ↓rV_e, zc_eq, zc_ne, zc_lt, zc_ge, zc_gt, zc_le, zlt_t, zlt_f, zle_t, zle_f, zeq_t, zeq_f, lz, zadd, zsub, zmul, zneg, zb_e0, zb_e1, boo0, boo1, ua_s, ua_n, ua_ua, up_s, u2_s, u2_f, u2_c, u2_u2, Int.natCast_add, Int.zero_add, Int.add_zero, ↓reduceIte, ne_eq, not_true_eq_false, not_false_eq_true, Int.natCast_one, ↓k_X5_whichSeen_0, ↓mc_3, ↓cI v7, ↓cI v8, ↓cI v4, ↓cI v9, ↓cI v10, ↓cI v11, ↓k_X5_whichSeen_87, ↓k_X5_whichSeen_105]
  have v11 : q_call q_MT d 110 [.ref 3, .float 11] (zM I A W) = _ := t0 11 (by decide) w11
  rw [if_neg w11]
  by_cases w12 : wq T b e 12
  · have v12 : q_call q_MT d 110 [.ref 3, .float 12] (zM I A W) = _ := t1 12 (by decide) w12
    rw [if_pos w12]
    simp (implicitDefEqProofs := false) (disch := omega) only [↓rI_s, ↓rV_s, ↓rI_e, ↓rV_e, zc_eq, zc_ne, zc_lt, zc_ge, zc_gt, zc_le, zlt_t, zlt_f, zle_t, zle_f, zeq_t, zeq_f, lz, zadd, zsub, zmul, zneg, zb_e0, zb_e1, boo0, boo1, ua_s, ua_n, ua_ua, up_s, u2_s, u2_f, u2_c, u2_u2, Int.natCast_add, Int.zero_add, Int.add_zero, ↓reduceIte, ne_eq, not_true_eq_false, not_false_eq_true, Int.natCast_one, ↓k_X5_whichSeen_0, ↓mc_3, ↓cI v7, ↓cI v8, ↓cI v4, ↓cI v9, ↓cI v10, ↓cI v11, ↓cI v12, ↓k_X5_whichSeen_87, ↓k_X5_whichSeen_105]
  have v12 : q_call q_MT d 110 [.ref 3, .float 12] (zM I A W) = _ := t0 12 (by decide) w12
  rw [if_neg w12]
  by_cases w13 : wq T b e 13
  · have v13 : q_call q_MT d 110 [.ref 3, .float 13] (zM I A W) = _ := t1 13 (by decide) w13
    rw [if_pos w13]
    simp (implicitDefEqProofs := false) (disch := omega) only [↓rI_s, ↓rV_s, ↓rI_e, ↓rV_e, zc_eq, zc_ne, zc_lt, zc_ge, zc_gt, zc_le, zlt_t, zlt_f, zle_t, zle_f, zeq_t, zeq_f, lz, zadd, zsub, zmul, zneg, zb_e0, zb_e1, boo0, boo1, ua_s, ua_n, ua_ua, up_s, u2_s, u2_f, u2_c, u2_u2, Int.natCast_add, Int.zero_add, Int.add_zero, ↓reduceIte, ne_eq, not_true_eq_false, not_false_eq_true, Int.natCast_one, ↓k_X5_whichSeen_0, ↓mc_3, ↓cI v7, ↓cI v8, ↓cI v4, ↓cI v9, ↓cI v10, ↓cI v11, ↓cI v12, ↓cI v13, ↓k_X5_whichSeen_87, ↓k_X5_whichSeen_105]
  have v13 : q_call q_MT d 110 [.ref 3, .float 13] (zM I A W) = _ := t0 13 (by decide) w13
  rw [if_neg w13]
  by_cases w14 : wq T b e 14
  · have v14 : q_call q_MT d 110 [.ref 3, .float 14] (zM I A W) = _ := t1 14 (by decide) w14
    rw [if_pos w14]
    simp (implicitDefEqProofs := false) (disch := omega) only [↓rI_s, ↓rV_s, ↓rI_e, ↓rV_e, zc_eq, zc_ne, zc_lt, zc_ge, zc_gt, zc_le, zlt_t, zlt_f, zle_t, zle_f, zeq_t, zeq_f, lz, zadd, zsub, zmul, zneg, zb_e0, zb_e1, boo0, boo1, ua_s, ua_n, ua_ua, up_s, u2_s, u2_f, u2_c, u2_u2, Int.natCast_add, Int.zero_add, Int.add_zero, ↓reduceIte, ne_eq, not_true_eq_false, not_false_eq_true, Int.natCast_one, ↓k_X5_whichSeen_0, ↓mc_3, ↓cI v7, ↓cI v8, ↓cI v4, ↓cI v9, ↓cI v10, ↓cI v11, ↓cI v12, ↓cI v13, ↓cI v14, ↓k_X5_whichSeen_87, ↓k_X5_whichSeen_105]
  have v14 : q_call q_MT d 110 [.ref 3, .float 14] (zM I A W) = _ := t0 14 (by decide) w14
  rw [if_neg w14]
  simp (implicitDefEqProofs := false) (disch := omega) only [↓rI_s, ↓rV_s, ↓rI_e, ↓rV_e, zc_eq, zc_ne, zc_lt, zc_ge, zc_gt, zc_le, zlt_t, zlt_f, zle_t, zle_f, zeq_t, zeq_f, lz, zadd, zsub, zmul, zneg, zb_e0, zb_e1, boo0, boo1, ua_s, ua_n, ua_ua, up_s, u2_s, u2_f, u2_c, u2_u2, Int.natCast_add, Int.zero_add, Int.add_zero, ↓reduceIte, ne_eq, not_true_eq_false, not_false_eq_true, Int.natCast_one, ↓k_X5_whichSeen_0, ↓mc_3, ↓cI v7, ↓cI v8, ↓cI v4, ↓cI v9, ↓cI v10, ↓cI v11, ↓cI v12, ↓cI v13, ↓cI v14, ↓k_X5_whichSeen_87, ↓k_X5_whichSeen_105]
def lPq (T : Int → Int) (n : Int) (S : zP) : zP := fun a c => bd (sgnS T n 91 a) fun e1 => bd (S e1 c) fun x => bd (sgnS T n 44 x.1) fun e2 => bd (S e2 x.2) fun y => bd (sgnS T n 93 y.1) fun e3 => .inr (e3, y.2)
theorem bd_as {α β γ : Type} {x : zE α} {f : α → zE β} {g : β → zE γ} : bd (bd x f) g = bd x (fun v => bd (f v) g) := by cases x <;> rfl
theorem lPa_q {S : zP} {v : Int} : lPa T n S v a c = bd (lPq T n S a c) (fun x => .inr (x.1, lEm v x.2)) := by
  unfold lPa lPq
  simp only [bd_as]
  rfl
/-- a reader of the class's does what it should, in calls that are deep enough -/
def cRd (W : qWt) (T : Int → Int) (n : Int) (mi : Nat) (o : Int) (dm : Nat) (U : zP) : Prop := ∀ (d : Nat) (a : Int) (c : zC) (I : Nat → Nat → Int) (A : Nat → Int → Int), dm ≤ d → cTx T n a I A → cC c I A → (c.1 : Int) ≤ a → cE T n lKc [21] I A W (q_call q_MT d mi [.ref 19, .ref 3, .int (zI o)] (zM I A W)) cC (U a c)
theorem c_pair {S : zP} {M o : Int} {dm : Nat} (hn : n ≤ 150) (ho : 0 ≤ o ∧ o ≤ 6) (hS : lOK n M S) (hin : cRd W T n 66 o dm S) : cRd W T n 69 o (dm + 3) (lPq T n S) := by
  intro d a c I A hd h hC hca
  obtain ⟨d, rfl⟩ : ∃ e, d = e + 1 := ⟨d - 1, by omega⟩
  have han := h.2.2.2.2.2.1
  have ha0 := h.2.2.2.2.1
  have e1 := c_sign (c := 91) (W := W) (d := d) (by omega) h (by omega)
  unfold lPq
  rcases q1 : sgnS T n 91 a with ⟨k, p⟩ | a1
  · rw [q1] at e1
    obtain ⟨I1, x1, x2, x3, x4⟩ := e1
    refine cE.bad I1 A (x1.wd rfl) fr.refl x2 x3 ?_
    rw [cl_X5_readPair]
    simp (implicitDefEqProofs := false) (disch := omega) only [↓rI_s, ↓rV_s, ↓rI_e, ↓rV_e, zc_eq, zc_ne, zc_lt, zc_ge, zc_gt, zc_le, zlt_t, zlt_f, zle_t, zle_f, zeq_t, zeq_f, lz, zadd, zsub, zmul, zneg, zb_e0, zb_e1, boo0, boo1, ua_s, ua_n, ua_ua, up_s, u2_s, u2_f, u2_c, u2_u2, Int.natCast_add, Int.zero_add, Int.add_zero, ↓reduceIte, ne_eq, not_true_eq_false, not_false_eq_true, Int.natCast_one, ↓k_X5_readPair_0, ↓mc_3, ↓cI x4, ↓k_X5_readPair_49, ↓k_X5_readPair_50]
  rw [q1] at e1
  have r1 := sgnS_r han q1
  obtain ⟨I1, x1, x2, x3, x4, x5⟩ := e1
  have e2 := hin d a1 c I1 A (by omega) x2 (hC.k x1) (by omega)
  show cE _ _ _ _ _ _ _ _ _ (bd (S a1 c) fun x => bd (sgnS T n 44 x.1) fun e2 => bd (S e2 x.2) fun y => bd (sgnS T n 93 y.1) fun e3 => .inr (e3, y.2))
  rcases q2 : S a1 c with ⟨k, p⟩ | ⟨a2, c2⟩
  · rw [q2] at e2
    obtain ⟨I2, A2, y1, y2, y3, y4, y5⟩ := e2
    refine cE.bad I2 A2 ((x1.wd rfl).tr y1) y2 y3 y4 ?_
    rw [cl_X5_readPair]
    simp (implicitDefEqProofs := false) (disch := omega) only [↓rI_s, ↓rV_s, ↓rI_e, ↓rV_e, zc_eq, zc_ne, zc_lt, zc_ge, zc_gt, zc_le, zlt_t, zlt_f, zle_t, zle_f, zeq_t, zeq_f, lz, zadd, zsub, zmul, zneg, zb_e0, zb_e1, boo0, boo1, ua_s, ua_n, ua_ua, up_s, u2_s, u2_f, u2_c, u2_u2, Int.natCast_add, Int.zero_add, Int.add_zero, ↓reduceIte, ne_eq, not_true_eq_false, not_false_eq_true, Int.natCast_one, ↓k_X5_readPair_0, ↓mc_3, ↓cI x5, ↓mc_19, ↓cI y5, ↓k_X5_readPair_49, ↓k_X5_readPair_50]
  rw [q2] at e2
  have r2 := hS.2 _ _ _ _ (by omega) (by omega) q2
  obtain ⟨I2, A2, y1, y2, y3, y4, y5, y6⟩ := e2
  have e3 := c_sign (c := 44) (W := W) (d := d) (by omega) y3 (by omega)
  show cE _ _ _ _ _ _ _ _ _ (bd (sgnS T n 44 a2) fun e2 => bd (S e2 c2) fun y => bd (sgnS T n 93 y.1) fun e3 => .inr (e3, y.2))
  rcases q3 : sgnS T n 44 a2 with ⟨k, p⟩ | a3
  · rw [q3] at e3
    obtain ⟨I3, z1, z2, z3, z4⟩ := e3
    refine cE.bad I3 A2 (((x1.wd rfl).tr y1).tr (z1.wd rfl)) y2 z2 z3 ?_
    rw [cl_X5_readPair]
    simp (implicitDefEqProofs := false) (disch := omega) only [↓rI_s, ↓rV_s, ↓rI_e, ↓rV_e, zc_eq, zc_ne, zc_lt, zc_ge, zc_gt, zc_le, zlt_t, zlt_f, zle_t, zle_f, zeq_t, zeq_f, lz, zadd, zsub, zmul, zneg, zb_e0, zb_e1, boo0, boo1, ua_s, ua_n, ua_ua, up_s, u2_s, u2_f, u2_c, u2_u2, Int.natCast_add, Int.zero_add, Int.add_zero, ↓reduceIte, ne_eq, not_true_eq_false, not_false_eq_true, Int.natCast_one, ↓k_X5_readPair_0, ↓mc_3, ↓cI x5, ↓mc_19, ↓cI y6, ↓cI z4, ↓k_X5_readPair_49, ↓k_X5_readPair_50]
  rw [q3] at e3
  have r3 := sgnS_r r2.2.1 q3
  obtain ⟨I3, z1, z2, z3, z4, z5⟩ := e3
  have e4 := hin d a3 c2 I3 A2 (by omega) z2 (y5.k z1) (by omega)
  show cE _ _ _ _ _ _ _ _ _ (bd (S a3 c2) fun y => bd (sgnS T n 93 y.1) fun e3 => .inr (e3, y.2))
  rcases q4 : S a3 c2 with ⟨k, p⟩ | ⟨a4, c4⟩
  · rw [q4] at e4
    obtain ⟨I4, A4, u1, u2, u3, u4, u5⟩ := e4
    refine cE.bad I4 A4 ((((x1.wd rfl).tr y1).tr (z1.wd rfl)).tr u1) (y2.tr u2) u3 u4 ?_
    rw [cl_X5_readPair]
    simp (implicitDefEqProofs := false) (disch := omega) only [↓rI_s, ↓rV_s, ↓rI_e, ↓rV_e, zc_eq, zc_ne, zc_lt, zc_ge, zc_gt, zc_le, zlt_t, zlt_f, zle_t, zle_f, zeq_t, zeq_f, lz, zadd, zsub, zmul, zneg, zb_e0, zb_e1, boo0, boo1, ua_s, ua_n, ua_ua, up_s, u2_s, u2_f, u2_c, u2_u2, Int.natCast_add, Int.zero_add, Int.add_zero, ↓reduceIte, ne_eq, not_true_eq_false, not_false_eq_true, Int.natCast_one, ↓k_X5_readPair_0, ↓mc_3, ↓cI x5, ↓mc_19, ↓cI y6, ↓cI z5, ↓cI u5, ↓k_X5_readPair_49, ↓k_X5_readPair_50]
  rw [q4] at e4
  have r4 := hS.2 _ _ _ _ (by omega) (by omega) q4
  obtain ⟨I4, A4, u1, u2, u3, u4, u5, u6⟩ := e4
  have e5 := c_sign (c := 93) (W := W) (d := d) (by omega) u3 (by omega)
  show cE _ _ _ _ _ _ _ _ _ (bd (sgnS T n 93 a4) fun e3 => .inr (e3, c4))
  rcases q5 : sgnS T n 93 a4 with ⟨k, p⟩ | a5
  · rw [q5] at e5
    obtain ⟨I5, t1, t2, t3, t4⟩ := e5
    refine cE.bad I5 A4 (((((x1.wd rfl).tr y1).tr (z1.wd rfl)).tr u1).tr (t1.wd rfl)) (y2.tr u2) t2 t3 ?_
    rw [cl_X5_readPair]
    simp (implicitDefEqProofs := false) (disch := omega) only [↓rI_s, ↓rV_s, ↓rI_e, ↓rV_e, zc_eq, zc_ne, zc_lt, zc_ge, zc_gt, zc_le, zlt_t, zlt_f, zle_t, zle_f, zeq_t, zeq_f, lz, zadd, zsub, zmul, zneg, zb_e0, zb_e1, boo0, boo1, ua_s, ua_n, ua_ua, up_s, u2_s, u2_f, u2_c, u2_u2, Int.natCast_add, Int.zero_add, Int.add_zero, ↓reduceIte, ne_eq, not_true_eq_false, not_false_eq_true, Int.natCast_one, ↓k_X5_readPair_0, ↓mc_3, ↓cI x5, ↓mc_19, ↓cI y6, ↓cI z5, ↓cI u6, ↓cI t4, ↓k_X5_readPair_49, ↓k_X5_readPair_50]
  · rw [q5] at e5
    obtain ⟨I5, t1, t2, t3, t4, t5⟩ := e5
    refine cE.ok I5 A4 (((((x1.wd rfl).tr y1).tr (z1.wd rfl)).tr u1).tr (t1.wd rfl)) (y2.tr u2) t2 (t4.trans (u4.trans (z4.trans (y4.trans x4)))) (u5.k t1) ?_
    rw [cl_X5_readPair]
    simp (implicitDefEqProofs := false) (disch := omega) only [↓rI_s, ↓rV_s, ↓rI_e, ↓rV_e, zc_eq, zc_ne, zc_lt, zc_ge, zc_gt, zc_le, zlt_t, zlt_f, zle_t, zle_f, zeq_t, zeq_f, lz, zadd, zsub, zmul, zneg, zb_e0, zb_e1, boo0, boo1, ua_s, ua_n, ua_ua, up_s, u2_s, u2_f, u2_c, u2_u2, Int.natCast_add, Int.zero_add, Int.add_zero, ↓reduceIte, ne_eq, not_true_eq_false, not_false_eq_true, Int.natCast_one, ↓k_X5_readPair_0, ↓mc_3, ↓cI x5, ↓mc_19, ↓cI y6, ↓cI z5, ↓cI u6, ↓cI t5, ↓k_X5_readPair_50]
end LC
