--DEPS 9l.lawn
section LO
variable {d : Nat} {I I' : Nat → Nat → Int} {A : Nat → Int → Int} {W : qWt} {T : Int → Int} {n a : Int} {c : zC}
theorem m_unit {S : zP} {M o : Int} {dm : Nat} (hn : n ≤ 150) (ho : 0 ≤ o ∧ o ≤ 6) (hS : o < 6 → lOK n M S) (hin : o < 6 → mRd W T n 192 (o + 1) dm S) : mRd W T n 196 o (dm + 8) (lUn T n (decide (o < 6)) S) := by
  intro d a c I A hd h hb5 h7 hC hca
  obtain ⟨d, rfl⟩ : ∃ e, d = e + 1 := ⟨d - 1, by omega⟩
  have han := h.2.2.2.2.2.1
  have ha0 := h.2.2.2.2.1
  have hn6 := h.2.2.2.2.2.2
  have sb := sk_b (T := T) han
  have dg := gE_b (q := qL' T) sb.2
  have tb := h.2.1 (sk T n a)
  have f1 := m_fine (I := I) (A := A) (W := W) (d := d) (by omega) (by omega)
  rw [zb_t hb5] at f1
  have eh := m_here (W := W) (d := d) (by omega) h
  have h0 : mTx T n (sk T n a) (u2 I 59 4 (sk T n a)) A := h.u (u2_f (by decide)) u2_s (by omega) sb.2
  have f0 : fi aK I (u2 I 59 4 (sk T n a)) := fi.refl.f rfl
  have b0 : u2 I 59 4 (sk T n a) 59 5 = -1 := (u2_f (by decide)).trans hb5
  have g0 : u2 I 59 4 (sk T n a) 59 7 = o := (u2_f (by decide)).trans h7
  have eh0 := m_here (W := W) (d := d) (by omega) h0
  have ew := m_word (W := W) (d := d) (by omega) h0
  have efh := m_factHere (W := W) (d := d) (by omega) h0
  rw [sk_sk han, u2_u2] at eh0
  rw [sk_sk han, u2_u2] at ew
  rw [sk_sk han, u2_u2] at efh
  generalize u2 I 59 4 (sk T n a) = I0 at eh h0 f0 b0 g0 eh0 ew efh
  have fc : fi lKm I I0 := f0.wd rfl
  have hC0 := hC.k f0
  unfold lUn
  by_cases qd : sk T n a < n ∧ 48 ≤ T (sk T n a) ∧ T (sk T n a) ≤ 57
  · rw [if_pos qd]
    rw [if_pos qd.1] at eh eh0
    have ed := m_isDigit (d := d) (h := zM I0 A W) (c := T (sk T n a)) (by omega) tb
    rw [zb_t qd.2] at ed
    have e1 := m_readNumber (lo := 0) (hi := 999) (W := W) (d := d) (by omega) h0 b0 (by omega) (by omega)
    have eq : numS T n 0 999 (sk T n a) = numS T n 0 999 a := by unfold numS; rw [sk_sk han]
    rw [eq] at e1
    rcases q1 : numS T n 0 999 a with ⟨k, p⟩ | ⟨e, v⟩
    · rw [q1] at e1
      have r1 := numS_l han q1
      obtain ⟨I1, a1, x1, x2, x3, x4, x5⟩ := e1
      have w5 : wI (I1 59 5) := by rw [x4]; omega
      have n5 : I1 59 5 ≠ -1 := by rw [x4]; omega
      have eB := m_emit_b (I := I1) (A := A) (W := W) (d := d) (wh := 0) (oo := 0) (by omega) n5 w5
      refine mE.bad I1 A (fc.tr (x1.wd rfl)) fr.refl x3 x4 (by omega) ?_
      rw [cl_X11_readUnit]
      simp (implicitDefEqProofs := false) (disch := omega) only [↓rI_s, ↓rV_s, ↓rI_e, ↓rV_e, zc_eq, zc_ne, zc_lt, zc_ge, zc_gt, zc_le, zlt_t, zlt_f, zle_t, zle_f, zeq_t, zeq_f, lz, zadd, zsub, zmul, zneg, zb_e0, zb_e1, boo0, boo1, ua_s, ua_n, ua_ua, up_s, u2_s, u2_f, u2_c, u2_u2, Int.natCast_add, Int.zero_add, Int.add_zero, ↓reduceIte, ne_eq, not_true_eq_false, not_false_eq_true, Int.natCast_one, ↓k_X11_readUnit_0, ↓mc_59, ↓cI f1, ↓cI eh, ↓cI eh0, ↓cI ed, ↓cI x5, ↓cV eB, ↓k_X11_readUnit_154]
    · rw [q1] at e1
      have r1 := numS_r han q1
      obtain ⟨I1, x1, x2, x3, x4⟩ := e1
      have emL := m_emitL (W := W) (d := d) (v := v) (wh := 0) (oo := v) (by omega) (hC0.k (x1.wd rfl)) (by omega) x3 ⟨fun q => by omega, fun q => ⟨rfl, rfl⟩, fun q q' => by omega⟩
      have em2 := emL.2
      refine mE.ok (u2 I1 59 31 (c.1 + 1)) (ua (ua A 68 (up (A 68) c.1 0)) 69 (up (A 69) c.1 v)) ((fc.tr (x1.wd rfl)).f rfl) ((fr.refl.a rfl).a rfl) ((x2.fr (L := [68, 69]) ((fr.refl.a rfl).a rfl) rfl).fi (K := [(59, 31)]) (fi.refl.f rfl) rfl) ((u2_f (by decide)).trans x3) ⟨emL.1, (u2_f (by decide)).trans ((x1 59 7 rfl).trans g0)⟩ ?_
      rw [cl_X11_readUnit]
      simp (implicitDefEqProofs := false) (disch := omega) only [↓rI_s, ↓rV_s, ↓rI_e, ↓rV_e, zc_eq, zc_ne, zc_lt, zc_ge, zc_gt, zc_le, zlt_t, zlt_f, zle_t, zle_f, zeq_t, zeq_f, lz, zadd, zsub, zmul, zneg, zb_e0, zb_e1, boo0, boo1, ua_s, ua_n, ua_ua, up_s, u2_s, u2_f, u2_c, u2_u2, Int.natCast_add, Int.zero_add, Int.add_zero, ↓reduceIte, ne_eq, not_true_eq_false, not_false_eq_true, Int.natCast_one, ↓k_X11_readUnit_0, ↓mc_59, ↓cI f1, ↓cI eh, ↓cI eh0, ↓cI ed, ↓cI x4, ↓cV em2, ↓k_X11_readUnit_154]
  rw [if_neg qd]
  by_cases qp : sk T n a < n ∧ T (sk T n a) = 40
  · rw [if_pos qp]
    rw [if_pos qp.1, qp.2] at eh
    by_cases ol : o < 6
    · rw [if_pos (decide_eq_true ol)]
      have eo := m_opens (A := A) (W := W) (d := d) (y := 1) (by omega) b0 h0.2.2.2.1 g0 ⟨ho.1, ol⟩
      have f2 : fi aK I0 (u2 (u2 I0 59 4 (sk T n a + 1)) 59 7 (o + 1)) := (fi.refl.f rfl).f rfl
      have h2 : mTx T n (sk T n a + 1) (u2 (u2 I0 59 4 (sk T n a + 1)) 59 7 (o + 1)) A := h0.u (by rw [u2_f (by decide), u2_f (by decide)]) (by rw [u2_f (by decide), u2_s]) (by omega) (by omega)
      have b2 : u2 (u2 I0 59 4 (sk T n a + 1)) 59 7 (o + 1) 59 5 = -1 := by rw [u2_f (by decide), u2_f (by decide)]; exact b0
      have g2 : u2 (u2 I0 59 4 (sk T n a + 1)) 59 7 (o + 1) 59 7 = o + 1 := u2_s
      generalize u2 (u2 I0 59 4 (sk T n a + 1)) 59 7 (o + 1) = I1 at eo f2 h2 b2 g2
      have fd : fi lKm I I1 := fc.tr (f2.wd rfl)
      have e2 := hin ol d (sk T n a + 1) c I1 A (by omega) h2 b2 g2 (hC0.k f2) (by omega)
      rcases q2 : S (sk T n a + 1) c with ⟨k, p⟩ | ⟨a2, c2⟩
      · rw [q2] at e2
        obtain ⟨I2, A2, y1, y2, y3, y4, y5, y6, y7⟩ := e2
        have w5 : wI (I2 59 5) := by rw [y4]; omega
        have n5 : I2 59 5 ≠ -1 := by rw [y4]; omega
        have s41 := m_sign_b (I := I2) (A := A2) (W := W) (d := d) (c := 41) (by omega) n5 w5
        refine mE.bad (u2 I2 59 7 (I2 59 7 - 1)) A2 ((fd.tr y1).f rfl) y2 ((u2_f (by decide)).trans y3) ((u2_f (by decide)).trans y4) ⟨y5, y6⟩ ?_
        rw [cl_X11_readUnit]
        simp (implicitDefEqProofs := false) (disch := omega) only [↓rI_s, ↓rV_s, ↓rI_e, ↓rV_e, zc_eq, zc_ne, zc_lt, zc_ge, zc_gt, zc_le, zlt_t, zlt_f, zle_t, zle_f, zeq_t, zeq_f, lz, zadd, zsub, zmul, zneg, zb_e0, zb_e1, boo0, boo1, ua_s, ua_n, ua_ua, up_s, u2_s, u2_f, u2_c, u2_u2, Int.natCast_add, Int.zero_add, Int.add_zero, ↓reduceIte, ne_eq, not_true_eq_false, not_false_eq_true, Int.natCast_one, ↓k_X11_readUnit_0, ↓mc_59, ↓cI f1, ↓cI eh, ↓cV eo, ↓cV y7, ↓cV s41, ↓zg_59_7, ↓zp_59_7, ↓k_X11_readUnit_154]
      rw [q2] at e2
      have r2 := (hS ol).2 _ _ _ _ (by omega) (by omega) q2
      obtain ⟨I2, A2, y1, y2, y3, y4, ⟨y5, y6⟩, y7⟩ := e2
      have e3 := m_sign (c := 41) (W := W) (d := d) (by omega) y3 (by omega) y4
      show mE _ _ _ _ _ _ _ _ _ (bd (sgnS T n 41 a2) fun e => .inr (e, c2))
      have o1 : o + 1 - 1 = o := by omega
      rcases q3 : sgnS T n 41 a2 with ⟨k, p⟩ | a3
      · rw [q3] at e3
        have r3 := sgnS_l r2.2.1 q3
        obtain ⟨I3, z1, z2, z3, z4, z5⟩ := e3
        refine mE.bad (u2 I3 59 7 (I3 59 7 - 1)) A2 (((fd.tr y1).tr (z1.wd rfl)).f rfl) y2 ((u2_f (by decide)).trans z3) ((u2_f (by decide)).trans z4) (by omega) ?_
        rw [cl_X11_readUnit]
        simp (implicitDefEqProofs := false) (disch := omega) only [↓rI_s, ↓rV_s, ↓rI_e, ↓rV_e, zc_eq, zc_ne, zc_lt, zc_ge, zc_gt, zc_le, zlt_t, zlt_f, zle_t, zle_f, zeq_t, zeq_f, lz, zadd, zsub, zmul, zneg, zb_e0, zb_e1, boo0, boo1, ua_s, ua_n, ua_ua, up_s, u2_s, u2_f, u2_c, u2_u2, Int.natCast_add, Int.zero_add, Int.add_zero, ↓reduceIte, ne_eq, not_true_eq_false, not_false_eq_true, Int.natCast_one, ↓k_X11_readUnit_0, ↓mc_59, ↓cI f1, ↓cI eh, ↓cV eo, ↓cV y7, ↓cV z5, ↓zg_59_7, ↓zp_59_7, ↓k_X11_readUnit_154]
      · rw [q3] at e3
        obtain ⟨I3, z1, z2, z3, z4⟩ := e3
        have g7 : I3 59 7 = o + 1 := (z1 59 7 rfl).trans y6
        have f6 : fi aK I3 (u2 I3 59 7 o) := fi.refl.f rfl
        refine mE.ok (u2 I3 59 7 o) A2 (((fd.tr y1).tr (z1.wd rfl)).f rfl) y2 (z2.fi (K := [(59, 7)]) (fi.refl.f rfl) rfl) ((u2_f (by decide)).trans z3) ⟨(y5.k (z1.wd rfl)).k f6, u2_s⟩ ?_
        rw [cl_X11_readUnit]
        simp (implicitDefEqProofs := false) (disch := omega) only [↓rI_s, ↓rV_s, ↓rI_e, ↓rV_e, zc_eq, zc_ne, zc_lt, zc_ge, zc_gt, zc_le, zlt_t, zlt_f, zle_t, zle_f, zeq_t, zeq_f, lz, zadd, zsub, zmul, zneg, zb_e0, zb_e1, boo0, boo1, ua_s, ua_n, ua_ua, up_s, u2_s, u2_f, u2_c, u2_u2, Int.natCast_add, Int.zero_add, Int.add_zero, ↓reduceIte, ne_eq, not_true_eq_false, not_false_eq_true, Int.natCast_one, ↓k_X11_readUnit_0, ↓mc_59, ↓cI f1, ↓cI eh, ↓cV eo, ↓cV y7, ↓cV z4, ↓zg_59_7, g7, ↓zp_59_7, o1, ↓k_X11_readUnit_154]
    · rw [if_neg (fun q => ol (of_decide_eq_true q))]
      have eo := m_opens6 (A := A) (W := W) (d := d) (y := 1) (by omega) b0 h0.2.2.2.1 (by omega) (g0.trans (by omega))
      have b5 : u2 (u2 (u2 I0 59 5 (sk T n a)) 59 6 3) 59 7 7 59 5 = sk T n a := by rw [u2_f (by decide), u2_f (by decide), u2_s]
      have b6 : u2 (u2 (u2 I0 59 5 (sk T n a)) 59 6 3) 59 7 7 59 6 = 3 := by rw [u2_f (by decide), u2_s]
      have f2 : fi lKm I0 (u2 (u2 (u2 I0 59 5 (sk T n a)) 59 6 3) 59 7 7) := ((fi.refl.f rfl).f rfl).f rfl
      generalize u2 (u2 (u2 I0 59 5 (sk T n a)) 59 6 3) 59 7 7 = I1 at eo b5 b6 f2
      have w5 : wI (I1 59 5) := by rw [b5]; omega
      have n5 : I1 59 5 ≠ -1 := by rw [b5]; omega
      have sB := m_readSum_b (I := I1) (A := A) (W := W) (d := d) (by omega) n5 w5
      have s41 := m_sign_b (I := I1) (A := A) (W := W) (d := d) (c := 41) (by omega) n5 w5
      refine mE.bad (u2 I1 59 7 (I1 59 7 - 1)) A ((fc.tr f2).f rfl) fr.refl ((u2_f (by decide)).trans b6) ((u2_f (by decide)).trans b5) (by omega) ?_
      rw [cl_X11_readUnit]
      simp (implicitDefEqProofs := false) (disch := omega) only [↓rI_s, ↓rV_s, ↓rI_e, ↓rV_e, zc_eq, zc_ne, zc_lt, zc_ge, zc_gt, zc_le, zlt_t, zlt_f, zle_t, zle_f, zeq_t, zeq_f, lz, zadd, zsub, zmul, zneg, zb_e0, zb_e1, boo0, boo1, ua_s, ua_n, ua_ua, up_s, u2_s, u2_f, u2_c, u2_u2, Int.natCast_add, Int.zero_add, Int.add_zero, ↓reduceIte, ne_eq, not_true_eq_false, not_false_eq_true, Int.natCast_one, ↓k_X11_readUnit_0, ↓mc_59, ↓cI f1, ↓cI eh, ↓cV eo, ↓cV sB, ↓cV s41, ↓zg_59_7, ↓zp_59_7, ↓k_X11_readUnit_154]
  rw [if_neg qp]
  -- a word
  have pv : ∃ pv : Int, ¬ (48 ≤ pv ∧ pv ≤ 57) ∧ pv ≠ 40 ∧ (0 ≤ pv ∧ pv ≤ 255) ∧ q_call q_MT d 170 [.ref 59] (zM I A W) = some (.inl (some (.int (zI pv))), zM I0 A W) ∧ q_call q_MT d 170 [.ref 59] (zM I0 A W) = some (.inl (some (.int (zI pv))), zM I0 A W) := by
    by_cases q : sk T n a < n
    · rw [if_pos q] at eh eh0
      exact ⟨T (sk T n a), fun r => qd ⟨q, r⟩, fun r => qp ⟨q, r⟩, tb, eh, eh0⟩
    · rw [if_neg q] at eh eh0
      exact ⟨0, by omega, by omega, by omega, eh, eh0⟩
  clear eh eh0
  obtain ⟨pv, pv1, pv2, pv3, eh, eh0⟩ := pv
  have ed := m_isDigit (d := d) (h := zM I0 A W) (c := pv) (by omega) pv3
  rw [zb_f pv1] at ed
  have wb := wcd_b (T := T) sb.2
  have q5 := wcd_q (T := T) (n := n) (b := sk T n a) (i := 5) (by decide) sb.2
  have q6 := wcd_q (T := T) (n := n) (b := sk T n a) (i := 6) (by decide) sb.2
  generalize wcd T (sk T n a) (gE (qL' T) n (sk T n a)) = w at ew wb q5 q6
  have o5 : ∀ {h : qH} {kx : Nat → Nat → qH → qR} {k : Int32 → qH → qR}, q_rI (q_call q_MT d 174 [.float 5] h) kx k = k (zI (lcs 5)) h := fun {h kx k} => cI (m_ofs (by omega) (by decide))
  have o6 : ∀ {h : qH} {kx : Nat → Nat → qH → qR} {k : Int32 → qH → qR}, q_rI (q_call q_MT d 174 [.float 6] h) kx k = k (zI (lcs 6)) h := fun {h kx k} => cI (m_ofs (by omega) (by decide))
  have l5 : ((q_strs.getD 5 []).length : Int) = 5 := rfl
  have l6 : ((q_strs.getD 6 []).length : Int) = 4 := rfl
  by_cases w5 : wq T (sk T n a) (gE (qL' T) n (sk T n a)) 5
  · have z5 := zye q5 w5
    have e5 := w5.1
    rw [l5] at e5
    rw [if_pos w5]
    by_cases ol : o < 6
    · rw [if_pos (decide_eq_true ol)]
      have e2 := m_two (v := 2004) (y := 5) (d := d) hn ⟨ho.1, ol⟩ (hS ol) (hin ol) (.inl rfl) (by omega) h0 b0 g0 hC0 (by omega) (by decide) (by omega)
      rw [show sk T n a + 5 = gE (qL' T) n (sk T n a) by omega, show (2004 : Int) - 1998 = 6 from rfl] at e2
      refine e2.up fc fr.refl (fun h e => ?_)
      rw [cl_X11_readUnit]
      simp (implicitDefEqProofs := false) (disch := omega) only [↓rI_s, ↓rV_s, ↓rI_e, ↓rV_e, zc_eq, zc_ne, zc_lt, zc_ge, zc_gt, zc_le, zlt_t, zlt_f, zle_t, zle_f, zeq_t, zeq_f, lz, zadd, zsub, zmul, zneg, zb_e0, zb_e1, boo0, boo1, ua_s, ua_n, ua_ua, up_s, u2_s, u2_f, u2_c, u2_u2, Int.natCast_add, Int.zero_add, Int.add_zero, ↓reduceIte, ne_eq, not_true_eq_false, not_false_eq_true, Int.natCast_one, ↓k_X11_readUnit_0, ↓mc_59, ↓cI f1, ↓cI eh, ↓cI eh0, ↓cI ed, ↓cI ew, ↓o5, z5, ↓cV e, ↓k_X11_readUnit_154]
    · rw [if_neg (fun q => ol (of_decide_eq_true q))]
      obtain ⟨I1, x1, x2, x3, x4⟩ := m_two6 (W := W) (d := d) (v := 2004) (y := 5) (by omega) h0 b0 (g0.trans (by omega))
      rw [show (2004 : Int) - 1998 = 6 from rfl] at x4
      refine mE.bad I1 A (fc.tr x1) fr.refl x2 x3 (by omega) ?_
      rw [cl_X11_readUnit]
      simp (implicitDefEqProofs := false) (disch := omega) only [↓rI_s, ↓rV_s, ↓rI_e, ↓rV_e, zc_eq, zc_ne, zc_lt, zc_ge, zc_gt, zc_le, zlt_t, zlt_f, zle_t, zle_f, zeq_t, zeq_f, lz, zadd, zsub, zmul, zneg, zb_e0, zb_e1, boo0, boo1, ua_s, ua_n, ua_ua, up_s, u2_s, u2_f, u2_c, u2_u2, Int.natCast_add, Int.zero_add, Int.add_zero, ↓reduceIte, ne_eq, not_true_eq_false, not_false_eq_true, Int.natCast_one, ↓k_X11_readUnit_0, ↓mc_59, ↓cI f1, ↓cI eh, ↓cI eh0, ↓cI ed, ↓cI ew, ↓o5, z5, ↓cV x4, ↓k_X11_readUnit_154]
  rw [if_neg w5]
  have z5 := zne q5 w5 wb (lcs_b ⟨5, by decide⟩)
  by_cases w6 : wq T (sk T n a) (gE (qL' T) n (sk T n a)) 6
  · have z6 := zye q6 w6
    have e6 := w6.1
    rw [l6] at e6
    rw [if_pos w6]
    by_cases ol : o < 6
    · rw [if_pos (decide_eq_true ol)]
      have e2 := m_two (v := 2005) (y := 4) (d := d) hn ⟨ho.1, ol⟩ (hS ol) (hin ol) (.inr rfl) (by omega) h0 b0 g0 hC0 (by omega) (by decide) (by omega)
      rw [show sk T n a + 4 = gE (qL' T) n (sk T n a) by omega, show (2005 : Int) - 1998 = 7 from rfl] at e2
      refine e2.up fc fr.refl (fun h e => ?_)
      rw [cl_X11_readUnit]
      simp (implicitDefEqProofs := false) (disch := omega) only [↓rI_s, ↓rV_s, ↓rI_e, ↓rV_e, zc_eq, zc_ne, zc_lt, zc_ge, zc_gt, zc_le, zlt_t, zlt_f, zle_t, zle_f, zeq_t, zeq_f, lz, zadd, zsub, zmul, zneg, zb_e0, zb_e1, boo0, boo1, ua_s, ua_n, ua_ua, up_s, u2_s, u2_f, u2_c, u2_u2, Int.natCast_add, Int.zero_add, Int.add_zero, ↓reduceIte, ne_eq, not_true_eq_false, not_false_eq_true, Int.natCast_one, ↓k_X11_readUnit_0, ↓mc_59, ↓cI f1, ↓cI eh, ↓cI eh0, ↓cI ed, ↓cI ew, ↓o5, z5, ↓k_X11_readUnit_94, ↓o6, z6, ↓cV e, ↓k_X11_readUnit_154]
    · rw [if_neg (fun q => ol (of_decide_eq_true q))]
      obtain ⟨I1, x1, x2, x3, x4⟩ := m_two6 (W := W) (d := d) (v := 2005) (y := 4) (by omega) h0 b0 (g0.trans (by omega))
      rw [show (2005 : Int) - 1998 = 7 from rfl] at x4
      refine mE.bad I1 A (fc.tr x1) fr.refl x2 x3 (by omega) ?_
      rw [cl_X11_readUnit]
      simp (implicitDefEqProofs := false) (disch := omega) only [↓rI_s, ↓rV_s, ↓rI_e, ↓rV_e, zc_eq, zc_ne, zc_lt, zc_ge, zc_gt, zc_le, zlt_t, zlt_f, zle_t, zle_f, zeq_t, zeq_f, lz, zadd, zsub, zmul, zneg, zb_e0, zb_e1, boo0, boo1, ua_s, ua_n, ua_ua, up_s, u2_s, u2_f, u2_c, u2_u2, Int.natCast_add, Int.zero_add, Int.add_zero, ↓reduceIte, ne_eq, not_true_eq_false, not_false_eq_true, Int.natCast_one, ↓k_X11_readUnit_0, ↓mc_59, ↓cI f1, ↓cI eh, ↓cI eh0, ↓cI ed, ↓cI ew, ↓o5, z5, ↓k_X11_readUnit_94, ↓o6, z6, ↓cV x4, ↓k_X11_readUnit_154]
  rw [if_neg w6]
  have z6 := zne q6 w6 wb (lcs_b ⟨6, by decide⟩)
  have fb := lFa_b (T := T) (b := sk T n a) (e := gE (qL' T) n (sk T n a))
  have fn : lFa T (sk T n a) (gE (qL' T) n (sk T n a)) ≠ -1 → sk T n a ≠ gE (qL' T) n (sk T n a) := fun q e => q (by rw [← e]; exact lFa_n)
  generalize lFa T (sk T n a) (gE (qL' T) n (sk T n a)) = fa at efh fb fn ⊢
  by_cases qf : fa = -1
  · rw [if_pos qf]
    have exw := m_wrong (I := I0) (A := A) (W := W) (d := d) (k := 1) (p := sk T n a) (by omega) b0
    have b5 : u2 (u2 I0 59 5 (sk T n a)) 59 6 1 59 5 = sk T n a := by rw [u2_f (by decide), u2_s]
    have f3 := m_fine (I := u2 (u2 I0 59 5 (sk T n a)) 59 6 1) (A := A) (W := W) (d := d) (by omega) (by rw [b5]; omega)
    rw [zb_f (by rw [b5]; omega)] at f3
    have g4 := h0.2.2.2.1
    refine mE.bad (u2 (u2 I0 59 5 (sk T n a)) 59 6 1) A ((fc.f rfl).f rfl) fr.refl u2_s b5 (by omega) ?_
    rw [cl_X11_readUnit]
    simp (implicitDefEqProofs := false) (disch := omega) only [↓rI_s, ↓rV_s, ↓rI_e, ↓rV_e, zc_eq, zc_ne, zc_lt, zc_ge, zc_gt, zc_le, zlt_t, zlt_f, zle_t, zle_f, zeq_t, zeq_f, lz, zadd, zsub, zmul, zneg, zb_e0, zb_e1, boo0, boo1, ua_s, ua_n, ua_ua, up_s, u2_s, u2_f, u2_c, u2_u2, Int.natCast_add, Int.zero_add, Int.add_zero, ↓reduceIte, ne_eq, not_true_eq_false, not_false_eq_true, Int.natCast_one, ↓k_X11_readUnit_0, ↓mc_59, ↓cI f1, ↓cI eh, ↓cI eh0, ↓cI ed, ↓cI ew, ↓o5, z5, ↓k_X11_readUnit_94, ↓o6, z6, ↓cI efh, ↓zg_59_4, g4, ↓cV exw, ↓k_X11_readUnit_136, ↓cI f3]
  · rw [if_neg qf]
    have ne := fn qf
    have f3 := m_fine (I := I0) (A := A) (W := W) (d := d) (by omega) (by omega)
    rw [zb_t b0] at f3
    have epp := m_pass (W := W) (d := d) (by omega) h0
    have f4 : fi aK I0 (u2 I0 59 4 (gE (qL' T) n (sk T n a))) := fi.refl.f rfl
    have h4 : mTx T n (gE (qL' T) n (sk T n a)) (u2 I0 59 4 (gE (qL' T) n (sk T n a))) A := h0.u (u2_f (by decide)) u2_s (by omega) dg.2.1
    have b4 : u2 I0 59 4 (gE (qL' T) n (sk T n a)) 59 5 = -1 := (u2_f (by decide)).trans b0
    have g4 : u2 I0 59 4 (gE (qL' T) n (sk T n a)) 59 7 = o := (u2_f (by decide)).trans g0
    generalize u2 I0 59 4 (gE (qL' T) n (sk T n a)) = I1 at epp f4 h4 b4 g4
    have emL := m_emitL (W := W) (d := d) (v := 1000 + fa) (wh := 1) (oo := fa) (by omega) (hC0.k f4) (by omega) b4 ⟨fun q => by omega, fun q => by omega, fun q q' => ⟨rfl, by omega⟩⟩
    have em2 := emL.2
    refine mE.ok (u2 I1 59 31 (c.1 + 1)) (ua (ua A 68 (up (A 68) c.1 1)) 69 (up (A 69) c.1 fa)) ((fc.tr (f4.wd rfl)).f rfl) ((fr.refl.a rfl).a rfl) ((h4.fr (L := [68, 69]) ((fr.refl.a rfl).a rfl) rfl).fi (K := [(59, 31)]) (fi.refl.f rfl) rfl) ((u2_f (by decide)).trans b4) ⟨emL.1, (u2_f (by decide)).trans g4⟩ ?_
    rw [cl_X11_readUnit]
    simp (implicitDefEqProofs := false) (disch := omega) only [↓rI_s, ↓rV_s, ↓rI_e, ↓rV_e, zc_eq, zc_ne, zc_lt, zc_ge, zc_gt, zc_le, zlt_t, zlt_f, zle_t, zle_f, zeq_t, zeq_f, lz, zadd, zsub, zmul, zneg, zb_e0, zb_e1, boo0, boo1, ua_s, ua_n, ua_ua, up_s, u2_s, u2_f, u2_c, u2_u2, Int.natCast_add, Int.zero_add, Int.add_zero, ↓reduceIte, ne_eq, not_true_eq_false, not_false_eq_true, Int.natCast_one, ↓k_X11_readUnit_0, ↓mc_59, ↓cI f1, ↓cI eh, ↓cI eh0, ↓cI ed, ↓cI ew, ↓o5, z5, ↓k_X11_readUnit_94, ↓o6, z6, ↓cI efh, ↓k_X11_readUnit_136, ↓cI f3, ↓cV epp, ↓cV em2, ↓k_X11_readUnit_154]
end LO
