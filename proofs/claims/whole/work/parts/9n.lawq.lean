--DEPS 9m.lawo
section LQ
variable {d : Nat} {I I' : Nat → Nat → Int} {A : Nat → Int → Int} {W : qWt} {T : Int → Int} {n a : Int} {c : zC}
theorem m_lpProduct {U : zP} {M o : Int} {dm : Nat} (hn : n ≤ 150) (hU : lOK n M U) (hin : mRd W T n 196 o dm U) (hd : dm ≤ d ∧ 3 ≤ d) : ∀ (m : Nat) (a : Int) (c : zC) (l1 : Value) (I : Nat → Nat → Int) (A : Nat → Int → Int), (n - a).toNat < m → (c.1 : Int) ≤ a → mTx T n a I A → I 59 5 = -1 → I 59 7 = o → mCd c I A → mE T n lKm [68, 69] I A W (q_run qm_X11_readProduct (q_call q_MT d) 4 [.ref 59, l1] [] (zM I A W)) (fun c' I' A' => mCd c' I' A' ∧ I' 59 7 = o) (lLp T n U 42 47 2002 2003 m a c) := by
  intro m
  induction m with
  | zero => intro a c l1 I A hm; omega
  | succ m ih =>
    intro a c l1 I A hm hca h hb5 h7 hC
    have han := h.2.2.2.2.2.1
    have ha0 := h.2.2.2.2.1
    have hn6 := h.2.2.2.2.2.2
    have sb := sk_b (T := T) han
    have tb := h.2.1 (sk T n a)
    have f1 := m_fine (I := I) (A := A) (W := W) (d := d) (by omega) (by omega)
    rw [zb_t hb5] at f1
    have eh := m_here (W := W) (d := d) (by omega) h
    have h0 : mTx T n (sk T n a) (u2 I 59 4 (sk T n a)) A := h.u (u2_f (by decide)) u2_s (by omega) sb.2
    have f0 : fi aK I (u2 I 59 4 (sk T n a)) := fi.refl.f rfl
    have b0 : u2 I 59 4 (sk T n a) 59 5 = -1 := (u2_f (by decide)).trans hb5
    have g0 : u2 I 59 4 (sk T n a) 59 7 = o := (u2_f (by decide)).trans h7
    have eh0 := m_here (W := W) (d := d) (by omega) h0
    rw [sk_sk han, u2_u2] at eh0
    generalize u2 I 59 4 (sk T n a) = I0 at eh h0 f0 b0 g0 eh0
    have fc : fi lKm I I0 := f0.wd rfl
    have hC0 := hC.k f0
    unfold lLp
    by_cases q : sk T n a < n ∧ (T (sk T n a) = 42 ∨ T (sk T n a) = 47)
    · rw [if_pos q]
      rw [if_pos q.1] at eh eh0
      have g4 := h0.2.2.2.1
      have f2 : fi aK I0 (u2 I0 59 4 (sk T n a + 1)) := fi.refl.f rfl
      have h2 : mTx T n (sk T n a + 1) (u2 I0 59 4 (sk T n a + 1)) A := h0.u (u2_f (by decide)) u2_s (by omega) (by omega)
      have b2 : u2 I0 59 4 (sk T n a + 1) 59 5 = -1 := (u2_f (by decide)).trans b0
      have g2 : u2 I0 59 4 (sk T n a + 1) 59 7 = o := (u2_f (by decide)).trans g0
      generalize hI1 : u2 I0 59 4 (sk T n a + 1) = I1 at f2 h2 b2 g2
      have e2 := hin d (sk T n a + 1) c I1 A (by omega) h2 b2 g2 (hC0.k f2) (by omega)
      generalize hv : (if T (sk T n a) = 42 then (2002 : Int) else 2003) = v
      have hv2 : v = 2002 ∨ v = 2003 := by rw [← hv]; split <;> omega
      have go : ∀ r, (q_rcv (zM I1 A W) (.ref 59) 11 (q_rV (q_call q_MT d 196 [.ref 59] (zM I1 A W)) q_t0 fun h3 => q_rcv h3 (.ref 59) 11 (q_rV (q_call q_MT d 190 [.ref 59, .int (zI (v - 1998)), .int (zI 0)] h3) q_t0 fun h5 => q_run qm_X11_readProduct (q_call q_MT d) 4 [.ref 59, .int (zI (v - 1998))] [] h5))) = r → q_run qm_X11_readProduct (q_call q_MT d) 4 [.ref 59, l1] [] (zM I A W) = r := by
        intro r hr
        rw [← hr, k_X11_readProduct_4]
        by_cases c1 : T (sk T n a) = 42
        · rw [if_pos c1] at hv
          rw [c1] at eh eh0
          rw [← hv, show (2002 : Int) - 1998 = 4 from rfl]
          simp (implicitDefEqProofs := false) (disch := omega) only [↓rI_s, ↓rV_s, ↓rI_e, ↓rV_e, zc_eq, zc_ne, zc_lt, zc_ge, zc_gt, zc_le, zlt_t, zlt_f, zle_t, zle_f, zeq_t, zeq_f, lz, zadd, zsub, zmul, zneg, zb_e0, zb_e1, boo0, boo1, ua_s, ua_n, ua_ua, up_s, u2_s, u2_f, u2_c, u2_u2, Int.natCast_add, Int.zero_add, Int.add_zero, ↓reduceIte, ne_eq, not_true_eq_false, not_false_eq_true, Int.natCast_one, ↓mc_59, ↓cI f1, ↓cI eh, ↓k_X11_readProduct_29, ↓cI eh0, ↓k_X11_readProduct_43, ↓zg_59_4, g4, ↓zp_59_4, hI1]
        · rw [if_neg c1] at hv
          have c2 : T (sk T n a) = 47 := by omega
          rw [c2] at eh eh0
          rw [← hv, show (2003 : Int) - 1998 = 5 from rfl]
          simp (implicitDefEqProofs := false) (disch := omega) only [↓rI_s, ↓rV_s, ↓rI_e, ↓rV_e, zc_eq, zc_ne, zc_lt, zc_ge, zc_gt, zc_le, zlt_t, zlt_f, zle_t, zle_f, zeq_t, zeq_f, lz, zadd, zsub, zmul, zneg, zb_e0, zb_e1, boo0, boo1, ua_s, ua_n, ua_ua, up_s, u2_s, u2_f, u2_c, u2_u2, Int.natCast_add, Int.zero_add, Int.add_zero, ↓reduceIte, ne_eq, not_true_eq_false, not_false_eq_true, Int.natCast_one, ↓mc_59, ↓cI f1, ↓cI eh, ↓cI eh0, ↓k_X11_readProduct_29, ↓k_X11_readProduct_43, ↓zg_59_4, g4, ↓zp_59_4, hI1]
      have fe : fi lKm I I1 := fc.tr (f2.wd rfl)
      rcases q2 : U (sk T n a + 1) c with ⟨k, p⟩ | ⟨a2, c2⟩
      · rw [q2] at e2
        obtain ⟨I2, A2, y1, y2, y3, y4, y5, y6, y7⟩ := e2
        have w5 : wI (I2 59 5) := by rw [y4]; omega
        have n5 : I2 59 5 ≠ -1 := by rw [y4]; omega
        have eB := m_emit_b (I := I2) (A := A2) (W := W) (d := d) (wh := v - 1998) (oo := 0) (by omega) n5 w5
        have f3 := m_fine (I := I2) (A := A2) (W := W) (d := d) (by omega) w5
        rw [zb_f n5] at f3
        refine mE.bad I2 A2 (fe.tr y1) y2 y3 y4 ⟨y5, y6⟩ (go _ ?_)
        simp (implicitDefEqProofs := false) (disch := omega) only [↓rI_s, ↓rV_s, ↓rI_e, ↓rV_e, zc_eq, zc_ne, zc_lt, zc_ge, zc_gt, zc_le, zlt_t, zlt_f, zle_t, zle_f, zeq_t, zeq_f, lz, zadd, zsub, zmul, zneg, zb_e0, zb_e1, boo0, boo1, ua_s, ua_n, ua_ua, up_s, u2_s, u2_f, u2_c, u2_u2, Int.natCast_add, Int.zero_add, Int.add_zero, ↓reduceIte, ne_eq, not_true_eq_false, not_false_eq_true, Int.natCast_one, ↓mc_59, ↓cV y7, ↓cV eB]
        rw [k_X11_readProduct_4]
        simp (implicitDefEqProofs := false) (disch := omega) only [↓rI_s, ↓rV_s, ↓rI_e, ↓rV_e, zc_eq, zc_ne, zc_lt, zc_ge, zc_gt, zc_le, zlt_t, zlt_f, zle_t, zle_f, zeq_t, zeq_f, lz, zadd, zsub, zmul, zneg, zb_e0, zb_e1, boo0, boo1, ua_s, ua_n, ua_ua, up_s, u2_s, u2_f, u2_c, u2_u2, Int.natCast_add, Int.zero_add, Int.add_zero, ↓reduceIte, ne_eq, not_true_eq_false, not_false_eq_true, Int.natCast_one, ↓mc_59, ↓cI f3, ↓k_X11_readProduct_67]
      · rw [q2] at e2
        have r2 := hU.2 _ _ _ _ (by omega) (by omega) q2
        obtain ⟨I2, A2, y1, y2, y3, y4, ⟨y5, y6⟩, y7⟩ := e2
        show mE _ _ _ _ _ _ _ _ _ (lLp T n U 42 47 2002 2003 m a2 (lEm v c2))
        have emL := m_emitL (W := W) (d := d) (v := v) (wh := v - 1998) (oo := 0) (by omega) y5 (by omega) y4 ⟨fun _ => rfl, fun q => by omega, fun q q' => by omega⟩
        have em2 := emL.2
        have h3 : mTx T n a2 (u2 I2 59 31 (c2.1 + 1)) (ua (ua A2 68 (up (A2 68) c2.1 (v - 1998))) 69 (up (A2 69) c2.1 0)) := (y3.fr (L := [68, 69]) ((fr.refl.a rfl).a rfl) rfl).fi (K := [(59, 31)]) (fi.refl.f rfl) rfl
        have l1' : ((lEm v c2).1 : Int) = c2.1 + 1 := by show ((c2.1 + 1 : Nat) : Int) = _; omega
        have y := ih a2 (lEm v c2) (.int (zI (v - 1998))) (u2 I2 59 31 (c2.1 + 1)) (ua (ua A2 68 (up (A2 68) c2.1 (v - 1998))) 69 (up (A2 69) c2.1 0)) (by omega) (by omega) h3 ((u2_f (by decide)).trans y4) ((u2_f (by decide)).trans y6) emL.1
        refine y.up ((fe.tr y1).f rfl) ((y2.a rfl).a rfl) (fun hh e => go _ ?_)
        rw [← e]
        simp (implicitDefEqProofs := false) (disch := omega) only [↓rI_s, ↓rV_s, ↓rI_e, ↓rV_e, zc_eq, zc_ne, zc_lt, zc_ge, zc_gt, zc_le, zlt_t, zlt_f, zle_t, zle_f, zeq_t, zeq_f, lz, zadd, zsub, zmul, zneg, zb_e0, zb_e1, boo0, boo1, ua_s, ua_n, ua_ua, up_s, u2_s, u2_f, u2_c, u2_u2, Int.natCast_add, Int.zero_add, Int.add_zero, ↓reduceIte, ne_eq, not_true_eq_false, not_false_eq_true, Int.natCast_one, ↓mc_59, ↓cV y7, ↓cV em2]
    · rw [if_neg q]
      refine mE.ok I0 A fc fr.refl h0 b0 ⟨hC0, g0⟩ ?_
      rw [k_X11_readProduct_4]
      by_cases q1 : sk T n a < n
      · rw [if_pos q1] at eh eh0
        have n1 : T (sk T n a) ≠ 42 := fun e => q ⟨q1, .inl e⟩
        have n2 : T (sk T n a) ≠ 47 := fun e => q ⟨q1, .inr e⟩
        simp (implicitDefEqProofs := false) (disch := omega) only [↓rI_s, ↓rV_s, ↓rI_e, ↓rV_e, zc_eq, zc_ne, zc_lt, zc_ge, zc_gt, zc_le, zlt_t, zlt_f, zle_t, zle_f, zeq_t, zeq_f, lz, zadd, zsub, zmul, zneg, zb_e0, zb_e1, boo0, boo1, ua_s, ua_n, ua_ua, up_s, u2_s, u2_f, u2_c, u2_u2, Int.natCast_add, Int.zero_add, Int.add_zero, ↓reduceIte, ne_eq, not_true_eq_false, not_false_eq_true, Int.natCast_one, ↓mc_59, ↓cI f1, ↓cI eh, ↓cI eh0, ↓k_X11_readProduct_67]
      · rw [if_neg q1] at eh eh0
        simp (implicitDefEqProofs := false) (disch := omega) only [↓rI_s, ↓rV_s, ↓rI_e, ↓rV_e, zc_eq, zc_ne, zc_lt, zc_ge, zc_gt, zc_le, zlt_t, zlt_f, zle_t, zle_f, zeq_t, zeq_f, lz, zadd, zsub, zmul, zneg, zb_e0, zb_e1, boo0, boo1, ua_s, ua_n, ua_ua, up_s, u2_s, u2_f, u2_c, u2_u2, Int.natCast_add, Int.zero_add, Int.add_zero, ↓reduceIte, ne_eq, not_true_eq_false, not_false_eq_true, Int.natCast_one, ↓mc_59, ↓cI f1, ↓cI eh, ↓cI eh0, ↓k_X11_readProduct_67]
theorem m_readProduct {U : zP} {M o : Int} {dm : Nat} (hn : n ≤ 150) (hU : lOK n M U) (hin : mRd W T n 196 o dm U) : mRd W T n 193 o (dm + 4) (lPr T n U) := by
  intro d a c I A hd h hb5 h7 hC hca
  obtain ⟨d, rfl⟩ : ∃ e, d = e + 1 := ⟨d - 1, by omega⟩
  have han := h.2.2.2.2.2.1
  have ha0 := h.2.2.2.2.1
  have e2 := hin d a c I A (by omega) h hb5 h7 hC hca
  unfold lPr
  rcases q2 : U a c with ⟨k, p⟩ | ⟨a2, c2⟩
  · rw [q2] at e2
    obtain ⟨I2, A2, y1, y2, y3, y4, y5, y6, y7⟩ := e2
    have w5 : wI (I2 59 5) := by rw [y4]; omega
    have n5 : I2 59 5 ≠ -1 := by rw [y4]; omega
    have f3 := m_fine (I := I2) (A := A2) (W := W) (d := d) (by omega) w5
    rw [zb_f n5] at f3
    refine mE.bad I2 A2 y1 y2 y3 y4 ⟨y5, y6⟩ ?_
    rw [cl_X11_readProduct]
    simp (implicitDefEqProofs := false) (disch := omega) only [↓rI_s, ↓rV_s, ↓rI_e, ↓rV_e, zc_eq, zc_ne, zc_lt, zc_ge, zc_gt, zc_le, zlt_t, zlt_f, zle_t, zle_f, zeq_t, zeq_f, lz, zadd, zsub, zmul, zneg, zb_e0, zb_e1, boo0, boo1, ua_s, ua_n, ua_ua, up_s, u2_s, u2_f, u2_c, u2_u2, Int.natCast_add, Int.zero_add, Int.add_zero, ↓reduceIte, ne_eq, not_true_eq_false, not_false_eq_true, Int.natCast_one, ↓k_X11_readProduct_0, ↓mc_59, ↓cV y7]
    rw [k_X11_readProduct_4]
    simp (implicitDefEqProofs := false) (disch := omega) only [↓rI_s, ↓rV_s, ↓rI_e, ↓rV_e, zc_eq, zc_ne, zc_lt, zc_ge, zc_gt, zc_le, zlt_t, zlt_f, zle_t, zle_f, zeq_t, zeq_f, lz, zadd, zsub, zmul, zneg, zb_e0, zb_e1, boo0, boo1, ua_s, ua_n, ua_ua, up_s, u2_s, u2_f, u2_c, u2_u2, Int.natCast_add, Int.zero_add, Int.add_zero, ↓reduceIte, ne_eq, not_true_eq_false, not_false_eq_true, Int.natCast_one, ↓mc_59, ↓cI f3, ↓k_X11_readProduct_67]
  · rw [q2] at e2
    have r2 := hU.2 _ _ _ _ (by omega) (by omega) q2
    obtain ⟨I2, A2, y1, y2, y3, y4, ⟨y5, y6⟩, y7⟩ := e2
    have y := m_lpProduct (W := W) (d := d) hn hU hin ⟨by omega, by omega⟩ 151 a2 c2 q_junk I2 A2 (by omega) (by omega) y3 y4 y6 y5
    refine y.up y1 y2 (fun hh e => ?_)
    rw [← e, cl_X11_readProduct]
    simp (implicitDefEqProofs := false) (disch := omega) only [↓rI_s, ↓rV_s, ↓rI_e, ↓rV_e, zc_eq, zc_ne, zc_lt, zc_ge, zc_gt, zc_le, zlt_t, zlt_f, zle_t, zle_f, zeq_t, zeq_f, lz, zadd, zsub, zmul, zneg, zb_e0, zb_e1, boo0, boo1, ua_s, ua_n, ua_ua, up_s, u2_s, u2_f, u2_c, u2_u2, Int.natCast_add, Int.zero_add, Int.add_zero, ↓reduceIte, ne_eq, not_true_eq_false, not_false_eq_true, Int.natCast_one, ↓k_X11_readProduct_0, ↓mc_59, ↓cV y7]
theorem m_lpSum {U : zP} {M o : Int} {dm : Nat} (hn : n ≤ 150) (hU : lOK n M U) (hin : mRd W T n 193 o dm U) (hd : dm ≤ d ∧ 3 ≤ d) : ∀ (m : Nat) (a : Int) (c : zC) (l1 : Value) (I : Nat → Nat → Int) (A : Nat → Int → Int), (n - a).toNat < m → (c.1 : Int) ≤ a → mTx T n a I A → I 59 5 = -1 → I 59 7 = o → mCd c I A → mE T n lKm [68, 69] I A W (q_run qm_X11_readSum (q_call q_MT d) 4 [.ref 59, l1] [] (zM I A W)) (fun c' I' A' => mCd c' I' A' ∧ I' 59 7 = o) (lLp T n U 43 45 2000 2001 m a c) := by
  intro m
  induction m with
  | zero => intro a c l1 I A hm; omega
  | succ m ih =>
    intro a c l1 I A hm hca h hb5 h7 hC
    have han := h.2.2.2.2.2.1
    have ha0 := h.2.2.2.2.1
    have hn6 := h.2.2.2.2.2.2
    have sb := sk_b (T := T) han
    have tb := h.2.1 (sk T n a)
    have f1 := m_fine (I := I) (A := A) (W := W) (d := d) (by omega) (by omega)
    rw [zb_t hb5] at f1
    have eh := m_here (W := W) (d := d) (by omega) h
    have h0 : mTx T n (sk T n a) (u2 I 59 4 (sk T n a)) A := h.u (u2_f (by decide)) u2_s (by omega) sb.2
    have f0 : fi aK I (u2 I 59 4 (sk T n a)) := fi.refl.f rfl
    have b0 : u2 I 59 4 (sk T n a) 59 5 = -1 := (u2_f (by decide)).trans hb5
    have g0 : u2 I 59 4 (sk T n a) 59 7 = o := (u2_f (by decide)).trans h7
    have eh0 := m_here (W := W) (d := d) (by omega) h0
    rw [sk_sk han, u2_u2] at eh0
    generalize u2 I 59 4 (sk T n a) = I0 at eh h0 f0 b0 g0 eh0
    have fc : fi lKm I I0 := f0.wd rfl
    have hC0 := hC.k f0
    unfold lLp
    by_cases q : sk T n a < n ∧ (T (sk T n a) = 43 ∨ T (sk T n a) = 45)
    · rw [if_pos q]
      rw [if_pos q.1] at eh eh0
      have g4 := h0.2.2.2.1
      have f2 : fi aK I0 (u2 I0 59 4 (sk T n a + 1)) := fi.refl.f rfl
      have h2 : mTx T n (sk T n a + 1) (u2 I0 59 4 (sk T n a + 1)) A := h0.u (u2_f (by decide)) u2_s (by omega) (by omega)
      have b2 : u2 I0 59 4 (sk T n a + 1) 59 5 = -1 := (u2_f (by decide)).trans b0
      have g2 : u2 I0 59 4 (sk T n a + 1) 59 7 = o := (u2_f (by decide)).trans g0
      generalize hI1 : u2 I0 59 4 (sk T n a + 1) = I1 at f2 h2 b2 g2
      have e2 := hin d (sk T n a + 1) c I1 A (by omega) h2 b2 g2 (hC0.k f2) (by omega)
      generalize hv : (if T (sk T n a) = 43 then (2000 : Int) else 2001) = v
      have hv2 : v = 2000 ∨ v = 2001 := by rw [← hv]; split <;> omega
      have go : ∀ r, (q_rcv (zM I1 A W) (.ref 59) 11 (q_rV (q_call q_MT d 193 [.ref 59] (zM I1 A W)) q_t0 fun h3 => q_rcv h3 (.ref 59) 11 (q_rV (q_call q_MT d 190 [.ref 59, .int (zI (v - 1998)), .int (zI 0)] h3) q_t0 fun h5 => q_run qm_X11_readSum (q_call q_MT d) 4 [.ref 59, .int (zI (v - 1998))] [] h5))) = r → q_run qm_X11_readSum (q_call q_MT d) 4 [.ref 59, l1] [] (zM I A W) = r := by
        intro r hr
        rw [← hr, k_X11_readSum_4]
        by_cases c1 : T (sk T n a) = 43
        · rw [if_pos c1] at hv
          rw [c1] at eh eh0
          rw [← hv, show (2000 : Int) - 1998 = 2 from rfl]
          simp (implicitDefEqProofs := false) (disch := omega) only [↓rI_s, ↓rV_s, ↓rI_e, ↓rV_e, zc_eq, zc_ne, zc_lt, zc_ge, zc_gt, zc_le, zlt_t, zlt_f, zle_t, zle_f, zeq_t, zeq_f, lz, zadd, zsub, zmul, zneg, zb_e0, zb_e1, boo0, boo1, ua_s, ua_n, ua_ua, up_s, u2_s, u2_f, u2_c, u2_u2, Int.natCast_add, Int.zero_add, Int.add_zero, ↓reduceIte, ne_eq, not_true_eq_false, not_false_eq_true, Int.natCast_one, ↓mc_59, ↓cI f1, ↓cI eh, ↓k_X11_readSum_29, ↓cI eh0, ↓k_X11_readSum_43, ↓zg_59_4, g4, ↓zp_59_4, hI1]
        · rw [if_neg c1] at hv
          have c2 : T (sk T n a) = 45 := by omega
          rw [c2] at eh eh0
          rw [← hv, show (2001 : Int) - 1998 = 3 from rfl]
          simp (implicitDefEqProofs := false) (disch := omega) only [↓rI_s, ↓rV_s, ↓rI_e, ↓rV_e, zc_eq, zc_ne, zc_lt, zc_ge, zc_gt, zc_le, zlt_t, zlt_f, zle_t, zle_f, zeq_t, zeq_f, lz, zadd, zsub, zmul, zneg, zb_e0, zb_e1, boo0, boo1, ua_s, ua_n, ua_ua, up_s, u2_s, u2_f, u2_c, u2_u2, Int.natCast_add, Int.zero_add, Int.add_zero, ↓reduceIte, ne_eq, not_true_eq_false, not_false_eq_true, Int.natCast_one, ↓mc_59, ↓cI f1, ↓cI eh, ↓cI eh0, ↓k_X11_readSum_29, ↓k_X11_readSum_43, ↓zg_59_4, g4, ↓zp_59_4, hI1]
      have fe : fi lKm I I1 := fc.tr (f2.wd rfl)
      rcases q2 : U (sk T n a + 1) c with ⟨k, p⟩ | ⟨a2, c2⟩
      · rw [q2] at e2
        obtain ⟨I2, A2, y1, y2, y3, y4, y5, y6, y7⟩ := e2
        have w5 : wI (I2 59 5) := by rw [y4]; omega
        have n5 : I2 59 5 ≠ -1 := by rw [y4]; omega
        have eB := m_emit_b (I := I2) (A := A2) (W := W) (d := d) (wh := v - 1998) (oo := 0) (by omega) n5 w5
        have f3 := m_fine (I := I2) (A := A2) (W := W) (d := d) (by omega) w5
        rw [zb_f n5] at f3
        refine mE.bad I2 A2 (fe.tr y1) y2 y3 y4 ⟨y5, y6⟩ (go _ ?_)
        simp (implicitDefEqProofs := false) (disch := omega) only [↓rI_s, ↓rV_s, ↓rI_e, ↓rV_e, zc_eq, zc_ne, zc_lt, zc_ge, zc_gt, zc_le, zlt_t, zlt_f, zle_t, zle_f, zeq_t, zeq_f, lz, zadd, zsub, zmul, zneg, zb_e0, zb_e1, boo0, boo1, ua_s, ua_n, ua_ua, up_s, u2_s, u2_f, u2_c, u2_u2, Int.natCast_add, Int.zero_add, Int.add_zero, ↓reduceIte, ne_eq, not_true_eq_false, not_false_eq_true, Int.natCast_one, ↓mc_59, ↓cV y7, ↓cV eB]
        rw [k_X11_readSum_4]
        simp (implicitDefEqProofs := false) (disch := omega) only [↓rI_s, ↓rV_s, ↓rI_e, ↓rV_e, zc_eq, zc_ne, zc_lt, zc_ge, zc_gt, zc_le, zlt_t, zlt_f, zle_t, zle_f, zeq_t, zeq_f, lz, zadd, zsub, zmul, zneg, zb_e0, zb_e1, boo0, boo1, ua_s, ua_n, ua_ua, up_s, u2_s, u2_f, u2_c, u2_u2, Int.natCast_add, Int.zero_add, Int.add_zero, ↓reduceIte, ne_eq, not_true_eq_false, not_false_eq_true, Int.natCast_one, ↓mc_59, ↓cI f3, ↓k_X11_readSum_67]
      · rw [q2] at e2
        have r2 := hU.2 _ _ _ _ (by omega) (by omega) q2
        obtain ⟨I2, A2, y1, y2, y3, y4, ⟨y5, y6⟩, y7⟩ := e2
        show mE _ _ _ _ _ _ _ _ _ (lLp T n U 43 45 2000 2001 m a2 (lEm v c2))
        have emL := m_emitL (W := W) (d := d) (v := v) (wh := v - 1998) (oo := 0) (by omega) y5 (by omega) y4 ⟨fun _ => rfl, fun q => by omega, fun q q' => by omega⟩
        have em2 := emL.2
        have h3 : mTx T n a2 (u2 I2 59 31 (c2.1 + 1)) (ua (ua A2 68 (up (A2 68) c2.1 (v - 1998))) 69 (up (A2 69) c2.1 0)) := (y3.fr (L := [68, 69]) ((fr.refl.a rfl).a rfl) rfl).fi (K := [(59, 31)]) (fi.refl.f rfl) rfl
        have l1' : ((lEm v c2).1 : Int) = c2.1 + 1 := by show ((c2.1 + 1 : Nat) : Int) = _; omega
        have y := ih a2 (lEm v c2) (.int (zI (v - 1998))) (u2 I2 59 31 (c2.1 + 1)) (ua (ua A2 68 (up (A2 68) c2.1 (v - 1998))) 69 (up (A2 69) c2.1 0)) (by omega) (by omega) h3 ((u2_f (by decide)).trans y4) ((u2_f (by decide)).trans y6) emL.1
        refine y.up ((fe.tr y1).f rfl) ((y2.a rfl).a rfl) (fun hh e => go _ ?_)
        rw [← e]
        simp (implicitDefEqProofs := false) (disch := omega) only [↓rI_s, ↓rV_s, ↓rI_e, ↓rV_e, zc_eq, zc_ne, zc_lt, zc_ge, zc_gt, zc_le, zlt_t, zlt_f, zle_t, zle_f, zeq_t, zeq_f, lz, zadd, zsub, zmul, zneg, zb_e0, zb_e1, boo0, boo1, ua_s, ua_n, ua_ua, up_s, u2_s, u2_f, u2_c, u2_u2, Int.natCast_add, Int.zero_add, Int.add_zero, ↓reduceIte, ne_eq, not_true_eq_false, not_false_eq_true, Int.natCast_one, ↓mc_59, ↓cV y7, ↓cV em2]
    · rw [if_neg q]
      refine mE.ok I0 A fc fr.refl h0 b0 ⟨hC0, g0⟩ ?_
      rw [k_X11_readSum_4]
      by_cases q1 : sk T n a < n
      · rw [if_pos q1] at eh eh0
        have n1 : T (sk T n a) ≠ 43 := fun e => q ⟨q1, .inl e⟩
        have n2 : T (sk T n a) ≠ 45 := fun e => q ⟨q1, .inr e⟩
        simp (implicitDefEqProofs := false) (disch := omega) only [↓rI_s, ↓rV_s, ↓rI_e, ↓rV_e, zc_eq, zc_ne, zc_lt, zc_ge, zc_gt, zc_le, zlt_t, zlt_f, zle_t, zle_f, zeq_t, zeq_f, lz, zadd, zsub, zmul, zneg, zb_e0, zb_e1, boo0, boo1, ua_s, ua_n, ua_ua, up_s, u2_s, u2_f, u2_c, u2_u2, Int.natCast_add, Int.zero_add, Int.add_zero, ↓reduceIte, ne_eq, not_true_eq_false, not_false_eq_true, Int.natCast_one, ↓mc_59, ↓cI f1, ↓cI eh, ↓cI eh0, ↓k_X11_readSum_67]
      · rw [if_neg q1] at eh eh0
        simp (implicitDefEqProofs := false) (disch := omega) only [↓rI_s, ↓rV_s, ↓rI_e, ↓rV_e, zc_eq, zc_ne, zc_lt, zc_ge, zc_gt, zc_le, zlt_t, zlt_f, zle_t, zle_f, zeq_t, zeq_f, lz, zadd, zsub, zmul, zneg, zb_e0, zb_e1, boo0, boo1, ua_s, ua_n, ua_ua, up_s, u2_s, u2_f, u2_c, u2_u2, Int.natCast_add, Int.zero_add, Int.add_zero, ↓reduceIte, ne_eq, not_true_eq_false, not_false_eq_true, Int.natCast_one, ↓mc_59, ↓cI f1, ↓cI eh, ↓cI eh0, ↓k_X11_readSum_67]
theorem m_readSum {U : zP} {M o : Int} {dm : Nat} (hn : n ≤ 150) (hU : lOK n M U) (hin : mRd W T n 193 o dm U) : mRd W T n 192 o (dm + 4) (lSu T n U) := by
  intro d a c I A hd h hb5 h7 hC hca
  obtain ⟨d, rfl⟩ : ∃ e, d = e + 1 := ⟨d - 1, by omega⟩
  have han := h.2.2.2.2.2.1
  have ha0 := h.2.2.2.2.1
  have e2 := hin d a c I A (by omega) h hb5 h7 hC hca
  unfold lSu
  rcases q2 : U a c with ⟨k, p⟩ | ⟨a2, c2⟩
  · rw [q2] at e2
    obtain ⟨I2, A2, y1, y2, y3, y4, y5, y6, y7⟩ := e2
    have w5 : wI (I2 59 5) := by rw [y4]; omega
    have n5 : I2 59 5 ≠ -1 := by rw [y4]; omega
    have f3 := m_fine (I := I2) (A := A2) (W := W) (d := d) (by omega) w5
    rw [zb_f n5] at f3
    refine mE.bad I2 A2 y1 y2 y3 y4 ⟨y5, y6⟩ ?_
    rw [cl_X11_readSum]
    simp (implicitDefEqProofs := false) (disch := omega) only [↓rI_s, ↓rV_s, ↓rI_e, ↓rV_e, zc_eq, zc_ne, zc_lt, zc_ge, zc_gt, zc_le, zlt_t, zlt_f, zle_t, zle_f, zeq_t, zeq_f, lz, zadd, zsub, zmul, zneg, zb_e0, zb_e1, boo0, boo1, ua_s, ua_n, ua_ua, up_s, u2_s, u2_f, u2_c, u2_u2, Int.natCast_add, Int.zero_add, Int.add_zero, ↓reduceIte, ne_eq, not_true_eq_false, not_false_eq_true, Int.natCast_one, ↓k_X11_readSum_0, ↓mc_59, ↓cV y7]
    rw [k_X11_readSum_4]
    simp (implicitDefEqProofs := false) (disch := omega) only [↓rI_s, ↓rV_s, ↓rI_e, ↓rV_e, zc_eq, zc_ne, zc_lt, zc_ge, zc_gt, zc_le, zlt_t, zlt_f, zle_t, zle_f, zeq_t, zeq_f, lz, zadd, zsub, zmul, zneg, zb_e0, zb_e1, boo0, boo1, ua_s, ua_n, ua_ua, up_s, u2_s, u2_f, u2_c, u2_u2, Int.natCast_add, Int.zero_add, Int.add_zero, ↓reduceIte, ne_eq, not_true_eq_false, not_false_eq_true, Int.natCast_one, ↓mc_59, ↓cI f3, ↓k_X11_readSum_67]
  · rw [q2] at e2
    have r2 := hU.2 _ _ _ _ (by omega) (by omega) q2
    obtain ⟨I2, A2, y1, y2, y3, y4, ⟨y5, y6⟩, y7⟩ := e2
    have y := m_lpSum (W := W) (d := d) hn hU hin ⟨by omega, by omega⟩ 151 a2 c2 q_junk I2 A2 (by omega) (by omega) y3 y4 y6 y5
    refine y.up y1 y2 (fun hh e => ?_)
    rw [← e, cl_X11_readSum]
    simp (implicitDefEqProofs := false) (disch := omega) only [↓rI_s, ↓rV_s, ↓rI_e, ↓rV_e, zc_eq, zc_ne, zc_lt, zc_ge, zc_gt, zc_le, zlt_t, zlt_f, zle_t, zle_f, zeq_t, zeq_f, lz, zadd, zsub, zmul, zneg, zb_e0, zb_e1, boo0, boo1, ua_s, ua_n, ua_ua, up_s, u2_s, u2_f, u2_c, u2_u2, Int.natCast_add, Int.zero_add, Int.add_zero, ↓reduceIte, ne_eq, not_true_eq_false, not_false_eq_true, Int.natCast_one, ↓k_X11_readSum_0, ↓mc_59, ↓cV y7]
theorem m_lv (hn : n ≤ 150) : ∀ l : Nat, l ≤ 6 → mRd W T n 196 (6 - (l : Int)) (8 + 16 * l) (lv T n l)
  | 0, _ => by
    have := m_unit (W := W) (T := T) (n := n) (S := fun _ _ => .inl (0, 0)) (M := 1) (o := 6) (dm := 0) hn (by omega) (fun h => absurd h (by decide)) (fun h => absurd h (by decide))
    exact this
  | l + 1, hl => by
    have ih := m_lv hn l (by omega)
    have k := lv_ok (T := T) hn l
    have e1 := m_readProduct hn k ih
    have k1 := lPr_ok (T := T) k hn (by omega)
    have e2 := m_readSum hn k1 e1
    have k2 := lSu_ok (T := T) k1 hn (by omega)
    have := m_unit (W := W) (T := T) (n := n) (S := lSu T n (lPr T n (lv T n l))) (o := 6 - ((l + 1 : Nat) : Int)) (dm := 8 + 16 * l + 4 + 4) hn (by omega) (fun _ => k2) (fun _ => by
      rw [show 6 - ((l + 1 : Nat) : Int) + 1 = 6 - (l : Int) by omega]
      exact e2)
    rw [decide_eq_true (show 6 - ((l + 1 : Nat) : Int) < 6 by omega)] at this
    rw [show 8 + 16 * (l + 1) = 8 + 16 * l + 4 + 4 + 8 by omega]
    exact this
theorem M_law (hd : 130 ≤ d) (h : tpM T I A) (hn : wI n) : if 0 ≤ n ∧ n ≤ 150 ∧ n ≤ I 59 2 then (match lwA T n with
    | .inl (k, p) => ∃ I' A', fi ((59, 31) :: nK) I I' ∧ fr [68, 69] A A' ∧ I' 59 0 = 0 ∧ I' 59 2 = 0 ∧ I' 59 8 = p ∧ q_call q_MT d 197 [.ref 59, .int (zI n)] (zM I A W) = some (.inl (some (.int (zI (k - 10)))), zM I' A' W)
    | .inr c => ∃ I' A', fi ((59, 31) :: (59, 32) :: nK) I I' ∧ fr [68, 69, 70, 71] A A' ∧ I' 59 0 = 0 ∧ I' 59 2 = 0 ∧ I' 59 8 = -1 ∧ mL (evF c.2 c.1) I' A' ∧ q_call q_MT d 197 [.ref 59, .int (zI n)] (zM I A W) = some (.inl (some (.int (zI 1))), zM I' A' W)) else q_call q_MT d 197 [.ref 59, .int (zI n)] (zM I A W) = some (.inl (some (.int (zI 0))), zM (u2 I 59 0 1) (mRf A 1) W) := by
  obtain ⟨d, rfl⟩ : ∃ e, d = e + 1 := ⟨d - 1, by omega⟩
  rw [cl_X11_law, k_X11_law_0]
  have hs := h.2.2
  split
  · rename_i q
    have h' : tpM T (u2 I 59 0 0) A := h
    have my := s_may1 (I := I) (A := A) (W := W) (d := d) (c := 1) (k := 1) (by omega)
    obtain ⟨I1, x1, x2, x3, x4, x5, x6, x7⟩ := m_begins (W := W) (d := d) (n := n) (by omega) h' ⟨q.1, q.2.2⟩
    have f0 : fi nK I I1 := (fi.refl.f (c := 59) (f := 0) (v := 0) rfl).tr (x1.wd rfl)
    have z0 : I1 59 0 = 0 := (x1 59 0 rfl).trans u2_s
    have f1 : fi [(59, 31)] I1 (u2 I1 59 31 0) := fi.refl.f rfl
    have h1 : mTx T n 0 (u2 I1 59 31 0) A := x2.fi f1 rfl
    have b1 : u2 I1 59 31 0 59 5 = -1 := (f1 59 5 rfl).trans x3
    have g1 : u2 I1 59 31 0 59 7 = 0 := (f1 59 7 rfl).trans x5
    have z1 : u2 I1 59 31 0 59 0 = 0 := (f1 59 0 rfl).trans z0
    have t1 : u2 I1 59 31 0 59 2 = 0 := (f1 59 2 rfl).trans x4
    have c1 : mCd (0, fun _ => 0) (u2 I1 59 31 0) A := ⟨u2_s, fun k hk => absurd hk (by omega)⟩
    have fb : fi ((59, 31) :: nK) I (u2 I1 59 31 0) := (f0.wd rfl).tr (f1.wd rfl)
    generalize hI2 : u2 I1 59 31 0 = I2 at h1 b1 g1 z1 t1 c1 fb
    have top := m_readSum (W := W) (T := T) (n := n) q.2.1 (lPr_ok (lv_ok q.2.1 6) q.2.1 (by decide)) (m_readProduct q.2.1 (lv_ok q.2.1 6) (m_lv q.2.1 6 (by omega))) d 0 (0, fun _ => 0) I2 A (by omega) h1 b1 (g1.trans rfl) c1 (by decide)
    unfold lwA
    rcases q2 : lSu T n (lPr T n (lv T n 6)) 0 (0, fun _ => 0) with ⟨k, p⟩ | ⟨a2, c2⟩
    · rw [q2] at top
      obtain ⟨I3, A3, y1, y2, y3, y4, y5, y6, y7⟩ := top
      have w5 : wI (I3 59 5) := by rw [y4]; omega
      have n5 : I3 59 5 ≠ -1 := by rw [y4]; omega
      have f3 := m_fine (I := I3) (A := A3) (W := W) (d := d) (by omega) w5
      rw [zb_f n5] at f3
      have er := fun g => m_result_b (d := d) (I := I3) (A := A3) (W := W) (g := g) (by omega) (by omega)
      refine ⟨u2 I3 59 8 p, A3, (fb.tr (y1.wd rfl)).f rfl, y2, (u2_f (by decide)).trans ((y1 59 0 rfl).trans z1), (u2_f (by decide)).trans ((y1 59 2 rfl).trans t1), u2_s, ?_⟩
      simp (implicitDefEqProofs := false) (disch := omega) only [↓rI_s, ↓rV_s, ↓rI_e, ↓rV_e, zc_eq, zc_ne, zc_lt, zc_ge, zc_gt, zc_le, zlt_t, zlt_f, zle_t, zle_f, zeq_t, zeq_f, lz, zadd, zsub, zmul, zneg, zb_e0, zb_e1, boo0, boo1, ua_s, ua_n, ua_ua, up_s, u2_s, u2_f, u2_c, u2_u2, Int.natCast_add, Int.zero_add, Int.add_zero, ↓reduceIte, ne_eq, not_true_eq_false, not_false_eq_true, Int.natCast_one, ↓zp_59_0, ↓zg_59_2, ↓k_X11_law_30, ↓mc_59, ↓cI my, ↓cV x7, ↓zp_59_31, hI2, ↓cV y7, ↓cI f3, ↓k_X11_law_77, er, y3, y4, ↓zg_59_5]
    · rw [q2] at top
      have r2 := lwA_r q.1 q.2.1 q2
      obtain ⟨I3, A3, y1, y2, y3, y4, ⟨y5, y6⟩, y7⟩ := top
      have sb := sk_b (T := T) r2.2.2.2
      have f3 := m_fine (I := I3) (A := A3) (W := W) (d := d) (by omega) (by omega)
      rw [zb_t y4] at f3
      have im := m_isMore (W := W) (d := d) (by omega) y3
      have f4 : fi yK I3 (u2 I3 59 4 (sk T n a2)) := fi.refl.f rfl
      have b4 : u2 I3 59 4 (sk T n a2) 59 5 = -1 := (u2_f (by decide)).trans y4
      have c4 : u2 I3 59 4 (sk T n a2) 59 31 = c2.1 := (u2_f (by decide)).trans y5.1
      have z4 : u2 I3 59 4 (sk T n a2) 59 0 = 0 := (u2_f (by decide)).trans ((y1 59 0 rfl).trans z1)
      have t4 : u2 I3 59 4 (sk T n a2) 59 2 = 0 := (u2_f (by decide)).trans ((y1 59 2 rfl).trans t1)
      have g4 : u2 I3 59 4 (sk T n a2) 59 4 = sk T n a2 := u2_s
      have fJ : fi ((59, 31) :: nK) I (u2 I3 59 4 (sk T n a2)) := (fb.tr (y1.wd rfl)).tr (f4.wd rfl)
      generalize u2 I3 59 4 (sk T n a2) = I4 at im b4 c4 z4 t4 g4 fJ
      show match (if sk T n a2 < n then .inl (1, sk T n a2) else .inr c2 : zE zC) with
        | .inl (k, p) => _
        | .inr c => _
      by_cases c : sk T n a2 < n
      · rw [if_pos c]
        rw [zb_t c] at im
        have ew := m_wrong (I := I4) (A := A3) (W := W) (d := d) (k := 1) (p := sk T n a2) (by omega) b4
        have g5 : u2 (u2 I4 59 5 (sk T n a2)) 59 6 1 59 5 = sk T n a2 := by rw [u2_f (by decide), u2_s]
        have g6 : u2 (u2 I4 59 5 (sk T n a2)) 59 6 1 59 6 = 1 := u2_s
        have er := fun g => m_result_b (d := d) (I := u2 (u2 I4 59 5 (sk T n a2)) 59 6 1) (A := A3) (W := W) (g := g) (by omega) (by omega)
        rw [g5, g6] at er
        refine ⟨u2 (u2 (u2 I4 59 5 (sk T n a2)) 59 6 1) 59 8 (sk T n a2), A3, ((fJ.f rfl).f rfl).f rfl, y2, ?_, ?_, u2_s, ?_⟩
        · rw [u2_f (by decide), u2_f (by decide), u2_f (by decide)]; exact z4
        · rw [u2_f (by decide), u2_f (by decide), u2_f (by decide)]; exact t4
        · simp (implicitDefEqProofs := false) (disch := omega) only [↓rI_s, ↓rV_s, ↓rI_e, ↓rV_e, zc_eq, zc_ne, zc_lt, zc_ge, zc_gt, zc_le, zlt_t, zlt_f, zle_t, zle_f, zeq_t, zeq_f, lz, zadd, zsub, zmul, zneg, zb_e0, zb_e1, boo0, boo1, ua_s, ua_n, ua_ua, up_s, u2_s, u2_f, u2_c, u2_u2, Int.natCast_add, Int.zero_add, Int.add_zero, ↓reduceIte, ne_eq, not_true_eq_false, not_false_eq_true, Int.natCast_one, ↓zp_59_0, ↓zg_59_2, ↓k_X11_law_30, ↓mc_59, ↓cI my, ↓cV x7, ↓zp_59_31, hI2, ↓cV y7, ↓cI f3, ↓cI im, ↓zg_59_4, g4, ↓cV ew, ↓k_X11_law_77, er, ↓zg_59_5]
      · rw [if_neg c]
        rw [zb_f c] at im
        have l150 := r2.1.1
        have er := m_result (d := d) (I := I4) (A := A3) (W := W) (g := 1) (by omega) b4
        have k1 := m_copies_68_70 (d := d) (I := u2 (u2 I4 59 8 (-1)) 59 32 c2.1) (A := A3) (W := W) (n := c2.1) (by omega) (by omega)
        have k2 := m_copies_69_71 (d := d) (I := u2 (u2 I4 59 8 (-1)) 59 32 c2.1) (A := ua A3 70 (cpy c2.1 (A3 68) (A3 70))) (W := W) (n := c2.1) (by omega) (by omega)
        rw [ua_n (by decide), ua_n (by decide)] at k2
        refine ⟨u2 (u2 I4 59 8 (-1)) 59 32 c2.1, ua (ua A3 70 (cpy c2.1 (A3 68) (A3 70))) 71 (cpy c2.1 (A3 69) (A3 71)), ((fJ.wd rfl).f rfl).f rfl, ((y2.wd rfl).a rfl).a rfl, ?_, ?_, ?_, .inr ⟨c2.2, c2.1, r2.2.1, u2_s, fun k k0 k1 => ?_, r2.1, fun f => rfl⟩, ?_⟩
        · rw [u2_f (by decide), u2_f (by decide)]; exact z4
        · rw [u2_f (by decide), u2_f (by decide)]; exact t4
        · rw [u2_f (by decide), u2_s]
        · rw [ua_s, ua_n (by decide), ua_s, cpy_t k0 k1, cpy_t k0 k1]
          have := y5.2 k.toNat (by omega)
          rw [Int.toNat_of_nonneg k0] at this
          exact this
        · simp (implicitDefEqProofs := false) (disch := omega) only [↓rI_s, ↓rV_s, ↓rI_e, ↓rV_e, zc_eq, zc_ne, zc_lt, zc_ge, zc_gt, zc_le, zlt_t, zlt_f, zle_t, zle_f, zeq_t, zeq_f, lz, zadd, zsub, zmul, zneg, zb_e0, zb_e1, boo0, boo1, ua_s, ua_n, ua_ua, up_s, u2_s, u2_f, u2_c, u2_u2, Int.natCast_add, Int.zero_add, Int.add_zero, ↓reduceIte, ne_eq, not_true_eq_false, not_false_eq_true, Int.natCast_one, ↓zp_59_0, ↓zg_59_2, ↓k_X11_law_30, ↓mc_59, ↓cI my, ↓cV x7, ↓zp_59_31, hI2, ↓cV y7, ↓cI f3, ↓cI im, ↓k_X11_law_77, ↓cI er, ↓zg_59_5, b4, ↓zg_59_31, c4, ↓zp_59_32, ↓zg_59_26, ↓zg_59_28, ↓cV k1, ↓zg_59_27, ↓zg_59_29, ↓cV k2]
  · rename_i q
    by_cases q1 : n < 0
    · simp (implicitDefEqProofs := false) (disch := omega) only [↓rI_s, ↓rV_s, ↓rI_e, ↓rV_e, zc_eq, zc_ne, zc_lt, zc_ge, zc_gt, zc_le, zlt_t, zlt_f, zle_t, zle_f, zeq_t, zeq_f, lz, zadd, zsub, zmul, zneg, zb_e0, zb_e1, boo0, boo1, ua_s, ua_n, ua_ua, up_s, u2_s, u2_f, u2_c, u2_u2, Int.natCast_add, Int.zero_add, Int.add_zero, ↓reduceIte, ne_eq, not_true_eq_false, not_false_eq_true, Int.natCast_one, ↓zp_59_0, ↓k_X11_law_29, ↓k_X11_law_30, ↓mc_59, s_may0]
    · by_cases q2 : I 59 2 < n
      · simp (implicitDefEqProofs := false) (disch := omega) only [↓rI_s, ↓rV_s, ↓rI_e, ↓rV_e, zc_eq, zc_ne, zc_lt, zc_ge, zc_gt, zc_le, zlt_t, zlt_f, zle_t, zle_f, zeq_t, zeq_f, lz, zadd, zsub, zmul, zneg, zb_e0, zb_e1, boo0, boo1, ua_s, ua_n, ua_ua, up_s, u2_s, u2_f, u2_c, u2_u2, Int.natCast_add, Int.zero_add, Int.add_zero, ↓reduceIte, ne_eq, not_true_eq_false, not_false_eq_true, Int.natCast_one, ↓zp_59_0, ↓zg_59_2, ↓k_X11_law_29, ↓k_X11_law_30, ↓mc_59, s_may0]
      · simp (implicitDefEqProofs := false) (disch := omega) only [↓rI_s, ↓rV_s, ↓rI_e, ↓rV_e, zc_eq, zc_ne, zc_lt, zc_ge, zc_gt, zc_le, zlt_t, zlt_f, zle_t, zle_f, zeq_t, zeq_f, lz, zadd, zsub, zmul, zneg, zb_e0, zb_e1, boo0, boo1, ua_s, ua_n, ua_ua, up_s, u2_s, u2_f, u2_c, u2_u2, Int.natCast_add, Int.zero_add, Int.add_zero, ↓reduceIte, ne_eq, not_true_eq_false, not_false_eq_true, Int.natCast_one, ↓zp_59_0, ↓zg_59_2, ↓k_X11_law_29, ↓k_X11_law_30, ↓mc_59, s_may0]
end LQ
