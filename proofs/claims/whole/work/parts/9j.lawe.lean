--DEPS 9i.lawd
section LE
variable {d : Nat} {I I' : Nat → Nat → Int} {A : Nat → Int → Int} {W : qWt} {T : Int → Int} {n a : Int} {c : zC}
theorem c_passT {b : Int} (hd : 1 ≤ d) (h : I 3 3 = b) : q_call q_MT d 106 [.ref 3] (zM I A W) = some (.inl none, zM (u2 I 3 3 (b + 1)) A W) := by
  obtain ⟨d, rfl⟩ : ∃ e, d = e + 1 := ⟨d - 1, by omega⟩
  rw [cl_X9_pass]
  simp (implicitDefEqProofs := false) (disch := omega) only [↓rI_s, ↓rV_s, ↓rI_e, ↓rV_e, zc_eq, zc_ne, zc_lt, zc_ge, zc_gt, zc_le, zlt_t, zlt_f, zle_t, zle_f, zeq_t, zeq_f, lz, zadd, zsub, zmul, zneg, zb_e0, zb_e1, boo0, boo1, ua_s, ua_n, ua_ua, up_s, u2_s, u2_f, u2_c, u2_u2, Int.natCast_add, Int.zero_add, Int.add_zero, ↓reduceIte, ne_eq, not_true_eq_false, not_false_eq_true, Int.natCast_one, ↓k_X9_pass_0, ↓zg_3_3, h, ↓zp_3_3]
theorem c_lpProduct {U : zP} {M o : Int} {dm : Nat} (hn : n ≤ 150) (hU : lOK n M U) (hin : cRd W T n 68 o dm U) (hd : dm ≤ d ∧ 2 ≤ d) : ∀ (m : Nat) (a : Int) (c : zC) (i : Nat) (l4 : Value) (I : Nat → Nat → Int) (A : Nat → Int → Int), (n - a).toNat < m → 2 * (i : Int) ≤ a → (c.1 : Int) ≤ a → cTx T n a I A → cC c I A → cE T n lKc [21] I A W (q_run qm_X5_readProduct (q_call q_MT d) 13 [.ref 19, .ref 3, .int (zI o), .int (zI i), l4] [] (zM I A W)) cC (lLp T n U 42 47 2002 2003 m a c) := by
  intro m
  induction m with
  | zero => intro a c i l4 I A hm; omega
  | succ m ih =>
    intro a c i l4 I A hm hi hca h hC
    have han := h.2.2.2.2.2.1
    have ha0 := h.2.2.2.2.1
    have sb := sk_b (T := T) han
    have tb := h.2.1 (sk T n a)
    have ep := c_peek (W := W) (d := d) (by omega) h
    have h0 : cTx T n (sk T n a) (u2 (u2 I 3 3 (sk T n a)) 3 4 (sk T n a)) A := h.u (by rw [u2_f (by decide), u2_f (by decide)]) (by rw [u2_f (by decide), u2_s]) (by omega) sb.2
    have f0 : fi xK I (u2 (u2 I 3 3 (sk T n a)) 3 4 (sk T n a)) := (fi.refl.f rfl).f rfl
    have g7 : u2 (u2 I 3 3 (sk T n a)) 3 4 (sk T n a) 3 7 = I 3 7 := by rw [u2_f (by decide), u2_f (by decide)]
    generalize u2 (u2 I 3 3 (sk T n a)) 3 4 (sk T n a) = I0 at ep h0 f0 g7
    have fc : fi lKc I I0 := f0.wd rfl
    have hC0 := hC.k f0
    unfold lLp
    by_cases q : sk T n a < n ∧ (T (sk T n a) = 42 ∨ T (sk T n a) = 47)
    · rw [if_pos q]
      rw [if_pos q.1] at ep
      have et := c_passT (W := W) (A := A) (d := d) (by omega) h0.2.2.2.1
      have f1 : fi xK I0 (u2 I0 3 3 (sk T n a + 1)) := fi.refl.f rfl
      have h1 : cTx T n (sk T n a + 1) (u2 I0 3 3 (sk T n a + 1)) A := h0.u (u2_f (by decide)) u2_s (by omega) (by omega)
      have g8 : u2 I0 3 3 (sk T n a + 1) 3 7 = I0 3 7 := u2_f (by decide)
      generalize u2 I0 3 3 (sk T n a + 1) = I1 at et f1 h1 g8
      have e2 := hin d (sk T n a + 1) c I1 A (by omega) h1 (hC0.k f1) (by omega)
      have go : ∀ r, q_run qm_X5_readProduct (q_call q_MT d) 42 [.ref 19, .ref 3, .int (zI o), .int (zI i), .int (zI (T (sk T n a)))] [] (zM I0 A W) = r → q_run qm_X5_readProduct (q_call q_MT d) 13 [.ref 19, .ref 3, .int (zI o), .int (zI i), l4] [] (zM I A W) = r := by
        intro r hr
        rw [← hr, k_X5_readProduct_13]
        by_cases c1 : T (sk T n a) = 42
        · rw [c1] at ep
          rw [c1]
          simp (implicitDefEqProofs := false) (disch := omega) only [↓rI_s, ↓rV_s, ↓rI_e, ↓rV_e, zc_eq, zc_ne, zc_lt, zc_ge, zc_gt, zc_le, zlt_t, zlt_f, zle_t, zle_f, zeq_t, zeq_f, lz, zadd, zsub, zmul, zneg, zb_e0, zb_e1, boo0, boo1, ua_s, ua_n, ua_ua, up_s, u2_s, u2_f, u2_c, u2_u2, Int.natCast_add, Int.zero_add, Int.add_zero, ↓reduceIte, ne_eq, not_true_eq_false, not_false_eq_true, Int.natCast_one, ↓mc_3, ↓cI ep]
        · have c2 : T (sk T n a) = 47 := by omega
          rw [c2] at ep
          rw [c2]
          simp (implicitDefEqProofs := false) (disch := omega) only [↓rI_s, ↓rV_s, ↓rI_e, ↓rV_e, zc_eq, zc_ne, zc_lt, zc_ge, zc_gt, zc_le, zlt_t, zlt_f, zle_t, zle_f, zeq_t, zeq_f, lz, zadd, zsub, zmul, zneg, zb_e0, zb_e1, boo0, boo1, ua_s, ua_n, ua_ua, up_s, u2_s, u2_f, u2_c, u2_u2, Int.natCast_add, Int.zero_add, Int.add_zero, ↓reduceIte, ne_eq, not_true_eq_false, not_false_eq_true, Int.natCast_one, ↓mc_3, ↓cI ep]
      have fe : fi lKc I I1 := fc.tr (f1.wd rfl)
      rcases q2 : U (sk T n a + 1) c with ⟨k, p⟩ | ⟨a2, c2⟩
      · rw [q2] at e2
        obtain ⟨I2, A2, y1, y2, y3, y4, y5⟩ := e2
        refine cE.bad I2 A2 (fe.tr y1) y2 y3 y4 (go _ ?_)
        rw [k_X5_readProduct_42]
        simp (implicitDefEqProofs := false) (disch := omega) only [↓rI_s, ↓rV_s, ↓rI_e, ↓rV_e, zc_eq, zc_ne, zc_lt, zc_ge, zc_gt, zc_le, zlt_t, zlt_f, zle_t, zle_f, zeq_t, zeq_f, lz, zadd, zsub, zmul, zneg, zb_e0, zb_e1, boo0, boo1, ua_s, ua_n, ua_ua, up_s, u2_s, u2_f, u2_c, u2_u2, Int.natCast_add, Int.zero_add, Int.add_zero, ↓reduceIte, ne_eq, not_true_eq_false, not_false_eq_true, Int.natCast_one, ↓mc_3, ↓cV et, ↓mc_19, ↓cI y5]
      · rw [q2] at e2
        have r2 := hU.2 _ _ _ _ (by omega) (by omega) q2
        obtain ⟨I2, A2, y1, y2, y3, y4, y5, y6⟩ := e2
        show cE _ _ _ _ _ _ _ _ _ (lLp T n U 42 47 2002 2003 m a2 (lEm (if T (sk T n a) = 42 then 2002 else 2003) c2))
        generalize hv : (if T (sk T n a) = 42 then (2002 : Int) else 2003) = v
        have em := c_emit (W := W) (d := d) (v := v) (by omega) y5 (by omega)
        have em2 := em.2
        have h3 : cTx T n a2 (u2 I2 19 5 (c2.1 + 1)) (ua A2 21 (up (A2 21) c2.1 v)) := (y3.fr (L := [21]) (fr.refl.a rfl) rfl).fi (K := [(19, 5)]) (fi.refl.f rfl) rfl
        have l1 : ((lEm v c2).1 : Int) = c2.1 + 1 := by show ((c2.1 + 1 : Nat) : Int) = _; omega
        have y := ih a2 (lEm v c2) (i + 1) (.int (zI (T (sk T n a)))) (u2 I2 19 5 (c2.1 + 1)) (ua A2 21 (up (A2 21) c2.1 v)) (by omega) (by omega) (by omega) h3 em.1
        refine y.up ((fe.tr y1).f rfl) (y2.a rfl) ((u2_c (by decide)).trans (y4.trans (g8.trans g7))) (fun w hh hw e => go _ ?_)
        rw [← e, k_X5_readProduct_42]
        by_cases c1 : T (sk T n a) = 42
        · rw [if_pos c1] at hv
          rw [← hv] at em2
          rw [← hv]
          simp (implicitDefEqProofs := false) (disch := omega) only [↓rI_s, ↓rV_s, ↓rI_e, ↓rV_e, zc_eq, zc_ne, zc_lt, zc_ge, zc_gt, zc_le, zlt_t, zlt_f, zle_t, zle_f, zeq_t, zeq_f, lz, zadd, zsub, zmul, zneg, zb_e0, zb_e1, boo0, boo1, ua_s, ua_n, ua_ua, up_s, u2_s, u2_f, u2_c, u2_u2, Int.natCast_add, Int.zero_add, Int.add_zero, ↓reduceIte, ne_eq, not_true_eq_false, not_false_eq_true, Int.natCast_one, ↓mc_3, ↓cV et, ↓mc_19, ↓cI y6, c1, ↓k_X5_readProduct_74, ↓cI em2]
        · rw [if_neg c1] at hv
          rw [← hv] at em2
          rw [← hv]
          simp (implicitDefEqProofs := false) (disch := omega) only [↓rI_s, ↓rV_s, ↓rI_e, ↓rV_e, zc_eq, zc_ne, zc_lt, zc_ge, zc_gt, zc_le, zlt_t, zlt_f, zle_t, zle_f, zeq_t, zeq_f, lz, zadd, zsub, zmul, zneg, zb_e0, zb_e1, boo0, boo1, ua_s, ua_n, ua_ua, up_s, u2_s, u2_f, u2_c, u2_u2, Int.natCast_add, Int.zero_add, Int.add_zero, ↓reduceIte, ne_eq, not_true_eq_false, not_false_eq_true, Int.natCast_one, ↓mc_3, ↓cV et, ↓mc_19, ↓cI y6, ↓k_X5_readProduct_74, ↓cI em2]
    · rw [if_neg q]
      refine cE.ok I0 A fc fr.refl h0 g7 hC0 ?_
      rw [k_X5_readProduct_13]
      by_cases q1 : sk T n a < n
      · rw [if_pos q1] at ep
        have n1 : T (sk T n a) ≠ 42 := fun e => q ⟨q1, .inl e⟩
        have n2 : T (sk T n a) ≠ 47 := fun e => q ⟨q1, .inr e⟩
        simp (implicitDefEqProofs := false) (disch := omega) only [↓rI_s, ↓rV_s, ↓rI_e, ↓rV_e, zc_eq, zc_ne, zc_lt, zc_ge, zc_gt, zc_le, zlt_t, zlt_f, zle_t, zle_f, zeq_t, zeq_f, lz, zadd, zsub, zmul, zneg, zb_e0, zb_e1, boo0, boo1, ua_s, ua_n, ua_ua, up_s, u2_s, u2_f, u2_c, u2_u2, Int.natCast_add, Int.zero_add, Int.add_zero, ↓reduceIte, ne_eq, not_true_eq_false, not_false_eq_true, Int.natCast_one, ↓mc_3, ↓cI ep]
      · rw [if_neg q1] at ep
        simp (implicitDefEqProofs := false) (disch := omega) only [↓rI_s, ↓rV_s, ↓rI_e, ↓rV_e, zc_eq, zc_ne, zc_lt, zc_ge, zc_gt, zc_le, zlt_t, zlt_f, zle_t, zle_f, zeq_t, zeq_f, lz, zadd, zsub, zmul, zneg, zb_e0, zb_e1, boo0, boo1, ua_s, ua_n, ua_ua, up_s, u2_s, u2_f, u2_c, u2_u2, Int.natCast_add, Int.zero_add, Int.add_zero, ↓reduceIte, ne_eq, not_true_eq_false, not_false_eq_true, Int.natCast_one, ↓mc_3, ↓cI ep]
theorem c_readProduct {U : zP} {M o : Int} {dm : Nat} (hn : n ≤ 150) (hU : lOK n M U) (hin : cRd W T n 68 o dm U) : cRd W T n 67 o (dm + 3) (lPr T n U) := by
  intro d a c I A hd h hC hca
  obtain ⟨d, rfl⟩ : ∃ e, d = e + 1 := ⟨d - 1, by omega⟩
  have han := h.2.2.2.2.2.1
  have ha0 := h.2.2.2.2.1
  have e2 := hin d a c I A (by omega) h hC hca
  unfold lPr
  rcases q2 : U a c with ⟨k, p⟩ | ⟨a2, c2⟩
  · rw [q2] at e2
    obtain ⟨I2, A2, y1, y2, y3, y4, y5⟩ := e2
    refine cE.bad I2 A2 y1 y2 y3 y4 ?_
    rw [cl_X5_readProduct]
    simp (implicitDefEqProofs := false) (disch := omega) only [↓rI_s, ↓rV_s, ↓rI_e, ↓rV_e, zc_eq, zc_ne, zc_lt, zc_ge, zc_gt, zc_le, zlt_t, zlt_f, zle_t, zle_f, zeq_t, zeq_f, lz, zadd, zsub, zmul, zneg, zb_e0, zb_e1, boo0, boo1, ua_s, ua_n, ua_ua, up_s, u2_s, u2_f, u2_c, u2_u2, Int.natCast_add, Int.zero_add, Int.add_zero, ↓reduceIte, ne_eq, not_true_eq_false, not_false_eq_true, Int.natCast_one, ↓k_X5_readProduct_0, ↓mc_19, ↓cI y5]
  · rw [q2] at e2
    have r2 := hU.2 _ _ _ _ (by omega) (by omega) q2
    obtain ⟨I2, A2, y1, y2, y3, y4, y5, y6⟩ := e2
    have y := c_lpProduct (W := W) (d := d) hn hU hin ⟨by omega, by omega⟩ 151 a2 c2 0 q_junk I2 A2 (by omega) (by omega) (by omega) y3 y5
    refine y.up y1 y2 y4 (fun w hh hw e => ?_)
    rw [← e, cl_X5_readProduct]
    simp (implicitDefEqProofs := false) (disch := omega) only [↓rI_s, ↓rV_s, ↓rI_e, ↓rV_e, zc_eq, zc_ne, zc_lt, zc_ge, zc_gt, zc_le, zlt_t, zlt_f, zle_t, zle_f, zeq_t, zeq_f, lz, zadd, zsub, zmul, zneg, zb_e0, zb_e1, boo0, boo1, ua_s, ua_n, ua_ua, up_s, u2_s, u2_f, u2_c, u2_u2, Int.natCast_add, Int.zero_add, Int.add_zero, ↓reduceIte, ne_eq, not_true_eq_false, not_false_eq_true, Int.natCast_one, ↓k_X5_readProduct_0, ↓mc_19, ↓cI y6]
    rfl
theorem c_lpSum {U : zP} {M o : Int} {dm : Nat} (hn : n ≤ 150) (hU : lOK n M U) (hin : cRd W T n 67 o dm U) (hd : dm ≤ d ∧ 2 ≤ d) : ∀ (m : Nat) (a : Int) (c : zC) (i : Nat) (l4 : Value) (I : Nat → Nat → Int) (A : Nat → Int → Int), (n - a).toNat < m → 2 * (i : Int) ≤ a → (c.1 : Int) ≤ a → cTx T n a I A → cC c I A → cE T n lKc [21] I A W (q_run qm_X5_readSum (q_call q_MT d) 13 [.ref 19, .ref 3, .int (zI o), .int (zI i), l4] [] (zM I A W)) cC (lLp T n U 43 45 2000 2001 m a c) := by
  intro m
  induction m with
  | zero => intro a c i l4 I A hm; omega
  | succ m ih =>
    intro a c i l4 I A hm hi hca h hC
    have han := h.2.2.2.2.2.1
    have ha0 := h.2.2.2.2.1
    have sb := sk_b (T := T) han
    have tb := h.2.1 (sk T n a)
    have ep := c_peek (W := W) (d := d) (by omega) h
    have h0 : cTx T n (sk T n a) (u2 (u2 I 3 3 (sk T n a)) 3 4 (sk T n a)) A := h.u (by rw [u2_f (by decide), u2_f (by decide)]) (by rw [u2_f (by decide), u2_s]) (by omega) sb.2
    have f0 : fi xK I (u2 (u2 I 3 3 (sk T n a)) 3 4 (sk T n a)) := (fi.refl.f rfl).f rfl
    have g7 : u2 (u2 I 3 3 (sk T n a)) 3 4 (sk T n a) 3 7 = I 3 7 := by rw [u2_f (by decide), u2_f (by decide)]
    generalize u2 (u2 I 3 3 (sk T n a)) 3 4 (sk T n a) = I0 at ep h0 f0 g7
    have fc : fi lKc I I0 := f0.wd rfl
    have hC0 := hC.k f0
    unfold lLp
    by_cases q : sk T n a < n ∧ (T (sk T n a) = 43 ∨ T (sk T n a) = 45)
    · rw [if_pos q]
      rw [if_pos q.1] at ep
      have et := c_passT (W := W) (A := A) (d := d) (by omega) h0.2.2.2.1
      have f1 : fi xK I0 (u2 I0 3 3 (sk T n a + 1)) := fi.refl.f rfl
      have h1 : cTx T n (sk T n a + 1) (u2 I0 3 3 (sk T n a + 1)) A := h0.u (u2_f (by decide)) u2_s (by omega) (by omega)
      have g8 : u2 I0 3 3 (sk T n a + 1) 3 7 = I0 3 7 := u2_f (by decide)
      generalize u2 I0 3 3 (sk T n a + 1) = I1 at et f1 h1 g8
      have e2 := hin d (sk T n a + 1) c I1 A (by omega) h1 (hC0.k f1) (by omega)
      have go : ∀ r, q_run qm_X5_readSum (q_call q_MT d) 42 [.ref 19, .ref 3, .int (zI o), .int (zI i), .int (zI (T (sk T n a)))] [] (zM I0 A W) = r → q_run qm_X5_readSum (q_call q_MT d) 13 [.ref 19, .ref 3, .int (zI o), .int (zI i), l4] [] (zM I A W) = r := by
        intro r hr
        rw [← hr, k_X5_readSum_13]
        by_cases c1 : T (sk T n a) = 43
        · rw [c1] at ep
          rw [c1]
          simp (implicitDefEqProofs := false) (disch := omega) only [↓rI_s, ↓rV_s, ↓rI_e, ↓rV_e, zc_eq, zc_ne, zc_lt, zc_ge, zc_gt, zc_le, zlt_t, zlt_f, zle_t, zle_f, zeq_t, zeq_f, lz, zadd, zsub, zmul, zneg, zb_e0, zb_e1, boo0, boo1, ua_s, ua_n, ua_ua, up_s, u2_s, u2_f, u2_c, u2_u2, Int.natCast_add, Int.zero_add, Int.add_zero, ↓reduceIte, ne_eq, not_true_eq_false, not_false_eq_true, Int.natCast_one, ↓mc_3, ↓cI ep]
        · have c2 : T (sk T n a) = 45 := by omega
          rw [c2] at ep
          rw [c2]
          simp (implicitDefEqProofs := false) (disch := omega) only [↓rI_s, ↓rV_s, ↓rI_e, ↓rV_e, zc_eq, zc_ne, zc_lt, zc_ge, zc_gt, zc_le, zlt_t, zlt_f, zle_t, zle_f, zeq_t, zeq_f, lz, zadd, zsub, zmul, zneg, zb_e0, zb_e1, boo0, boo1, ua_s, ua_n, ua_ua, up_s, u2_s, u2_f, u2_c, u2_u2, Int.natCast_add, Int.zero_add, Int.add_zero, ↓reduceIte, ne_eq, not_true_eq_false, not_false_eq_true, Int.natCast_one, ↓mc_3, ↓cI ep]
      have fe : fi lKc I I1 := fc.tr (f1.wd rfl)
      rcases q2 : U (sk T n a + 1) c with ⟨k, p⟩ | ⟨a2, c2⟩
      · rw [q2] at e2
        obtain ⟨I2, A2, y1, y2, y3, y4, y5⟩ := e2
        refine cE.bad I2 A2 (fe.tr y1) y2 y3 y4 (go _ ?_)
        rw [k_X5_readSum_42]
        simp (implicitDefEqProofs := false) (disch := omega) only [↓rI_s, ↓rV_s, ↓rI_e, ↓rV_e, zc_eq, zc_ne, zc_lt, zc_ge, zc_gt, zc_le, zlt_t, zlt_f, zle_t, zle_f, zeq_t, zeq_f, lz, zadd, zsub, zmul, zneg, zb_e0, zb_e1, boo0, boo1, ua_s, ua_n, ua_ua, up_s, u2_s, u2_f, u2_c, u2_u2, Int.natCast_add, Int.zero_add, Int.add_zero, ↓reduceIte, ne_eq, not_true_eq_false, not_false_eq_true, Int.natCast_one, ↓mc_3, ↓cV et, ↓mc_19, ↓cI y5]
      · rw [q2] at e2
        have r2 := hU.2 _ _ _ _ (by omega) (by omega) q2
        obtain ⟨I2, A2, y1, y2, y3, y4, y5, y6⟩ := e2
        show cE _ _ _ _ _ _ _ _ _ (lLp T n U 43 45 2000 2001 m a2 (lEm (if T (sk T n a) = 43 then 2000 else 2001) c2))
        generalize hv : (if T (sk T n a) = 43 then (2000 : Int) else 2001) = v
        have em := c_emit (W := W) (d := d) (v := v) (by omega) y5 (by omega)
        have em2 := em.2
        have h3 : cTx T n a2 (u2 I2 19 5 (c2.1 + 1)) (ua A2 21 (up (A2 21) c2.1 v)) := (y3.fr (L := [21]) (fr.refl.a rfl) rfl).fi (K := [(19, 5)]) (fi.refl.f rfl) rfl
        have l1 : ((lEm v c2).1 : Int) = c2.1 + 1 := by show ((c2.1 + 1 : Nat) : Int) = _; omega
        have y := ih a2 (lEm v c2) (i + 1) (.int (zI (T (sk T n a)))) (u2 I2 19 5 (c2.1 + 1)) (ua A2 21 (up (A2 21) c2.1 v)) (by omega) (by omega) (by omega) h3 em.1
        refine y.up ((fe.tr y1).f rfl) (y2.a rfl) ((u2_c (by decide)).trans (y4.trans (g8.trans g7))) (fun w hh hw e => go _ ?_)
        rw [← e, k_X5_readSum_42]
        by_cases c1 : T (sk T n a) = 43
        · rw [if_pos c1] at hv
          rw [← hv] at em2
          rw [← hv]
          simp (implicitDefEqProofs := false) (disch := omega) only [↓rI_s, ↓rV_s, ↓rI_e, ↓rV_e, zc_eq, zc_ne, zc_lt, zc_ge, zc_gt, zc_le, zlt_t, zlt_f, zle_t, zle_f, zeq_t, zeq_f, lz, zadd, zsub, zmul, zneg, zb_e0, zb_e1, boo0, boo1, ua_s, ua_n, ua_ua, up_s, u2_s, u2_f, u2_c, u2_u2, Int.natCast_add, Int.zero_add, Int.add_zero, ↓reduceIte, ne_eq, not_true_eq_false, not_false_eq_true, Int.natCast_one, ↓mc_3, ↓cV et, ↓mc_19, ↓cI y6, c1, ↓k_X5_readSum_74, ↓cI em2]
        · rw [if_neg c1] at hv
          rw [← hv] at em2
          rw [← hv]
          simp (implicitDefEqProofs := false) (disch := omega) only [↓rI_s, ↓rV_s, ↓rI_e, ↓rV_e, zc_eq, zc_ne, zc_lt, zc_ge, zc_gt, zc_le, zlt_t, zlt_f, zle_t, zle_f, zeq_t, zeq_f, lz, zadd, zsub, zmul, zneg, zb_e0, zb_e1, boo0, boo1, ua_s, ua_n, ua_ua, up_s, u2_s, u2_f, u2_c, u2_u2, Int.natCast_add, Int.zero_add, Int.add_zero, ↓reduceIte, ne_eq, not_true_eq_false, not_false_eq_true, Int.natCast_one, ↓mc_3, ↓cV et, ↓mc_19, ↓cI y6, ↓k_X5_readSum_74, ↓cI em2]
    · rw [if_neg q]
      refine cE.ok I0 A fc fr.refl h0 g7 hC0 ?_
      rw [k_X5_readSum_13]
      by_cases q1 : sk T n a < n
      · rw [if_pos q1] at ep
        have n1 : T (sk T n a) ≠ 43 := fun e => q ⟨q1, .inl e⟩
        have n2 : T (sk T n a) ≠ 45 := fun e => q ⟨q1, .inr e⟩
        simp (implicitDefEqProofs := false) (disch := omega) only [↓rI_s, ↓rV_s, ↓rI_e, ↓rV_e, zc_eq, zc_ne, zc_lt, zc_ge, zc_gt, zc_le, zlt_t, zlt_f, zle_t, zle_f, zeq_t, zeq_f, lz, zadd, zsub, zmul, zneg, zb_e0, zb_e1, boo0, boo1, ua_s, ua_n, ua_ua, up_s, u2_s, u2_f, u2_c, u2_u2, Int.natCast_add, Int.zero_add, Int.add_zero, ↓reduceIte, ne_eq, not_true_eq_false, not_false_eq_true, Int.natCast_one, ↓mc_3, ↓cI ep]
      · rw [if_neg q1] at ep
        simp (implicitDefEqProofs := false) (disch := omega) only [↓rI_s, ↓rV_s, ↓rI_e, ↓rV_e, zc_eq, zc_ne, zc_lt, zc_ge, zc_gt, zc_le, zlt_t, zlt_f, zle_t, zle_f, zeq_t, zeq_f, lz, zadd, zsub, zmul, zneg, zb_e0, zb_e1, boo0, boo1, ua_s, ua_n, ua_ua, up_s, u2_s, u2_f, u2_c, u2_u2, Int.natCast_add, Int.zero_add, Int.add_zero, ↓reduceIte, ne_eq, not_true_eq_false, not_false_eq_true, Int.natCast_one, ↓mc_3, ↓cI ep]
theorem c_readSum {U : zP} {M o : Int} {dm : Nat} (hn : n ≤ 150) (hU : lOK n M U) (hin : cRd W T n 67 o dm U) : cRd W T n 66 o (dm + 3) (lSu T n U) := by
  intro d a c I A hd h hC hca
  obtain ⟨d, rfl⟩ : ∃ e, d = e + 1 := ⟨d - 1, by omega⟩
  have han := h.2.2.2.2.2.1
  have ha0 := h.2.2.2.2.1
  have e2 := hin d a c I A (by omega) h hC hca
  unfold lSu
  rcases q2 : U a c with ⟨k, p⟩ | ⟨a2, c2⟩
  · rw [q2] at e2
    obtain ⟨I2, A2, y1, y2, y3, y4, y5⟩ := e2
    refine cE.bad I2 A2 y1 y2 y3 y4 ?_
    rw [cl_X5_readSum]
    simp (implicitDefEqProofs := false) (disch := omega) only [↓rI_s, ↓rV_s, ↓rI_e, ↓rV_e, zc_eq, zc_ne, zc_lt, zc_ge, zc_gt, zc_le, zlt_t, zlt_f, zle_t, zle_f, zeq_t, zeq_f, lz, zadd, zsub, zmul, zneg, zb_e0, zb_e1, boo0, boo1, ua_s, ua_n, ua_ua, up_s, u2_s, u2_f, u2_c, u2_u2, Int.natCast_add, Int.zero_add, Int.add_zero, ↓reduceIte, ne_eq, not_true_eq_false, not_false_eq_true, Int.natCast_one, ↓k_X5_readSum_0, ↓mc_19, ↓cI y5]
  · rw [q2] at e2
    have r2 := hU.2 _ _ _ _ (by omega) (by omega) q2
    obtain ⟨I2, A2, y1, y2, y3, y4, y5, y6⟩ := e2
    have y := c_lpSum (W := W) (d := d) hn hU hin ⟨by omega, by omega⟩ 151 a2 c2 0 q_junk I2 A2 (by omega) (by omega) (by omega) y3 y5
    refine y.up y1 y2 y4 (fun w hh hw e => ?_)
    rw [← e, cl_X5_readSum]
    simp (implicitDefEqProofs := false) (disch := omega) only [↓rI_s, ↓rV_s, ↓rI_e, ↓rV_e, zc_eq, zc_ne, zc_lt, zc_ge, zc_gt, zc_le, zlt_t, zlt_f, zle_t, zle_f, zeq_t, zeq_f, lz, zadd, zsub, zmul, zneg, zb_e0, zb_e1, boo0, boo1, ua_s, ua_n, ua_ua, up_s, u2_s, u2_f, u2_c, u2_u2, Int.natCast_add, Int.zero_add, Int.add_zero, ↓reduceIte, ne_eq, not_true_eq_false, not_false_eq_true, Int.natCast_one, ↓k_X5_readSum_0, ↓mc_19, ↓cI y6]
    rfl
theorem c_lv (hn : n ≤ 150) : ∀ l : Nat, l ≤ 6 → cRd W T n 68 (6 - (l : Int)) (5 + 11 * l) (lv T n l)
  | 0, _ => by
    have := c_unit (W := W) (T := T) (n := n) (S := fun _ _ => .inl (0, 0)) (M := 1) (o := 6) (dm := 0) hn (by omega) (fun h => absurd h (by decide)) (fun h => absurd h (by decide))
    exact this
  | l + 1, hl => by
    have ih := c_lv hn l (by omega)
    have k := lv_ok (T := T) hn l
    have e1 := c_readProduct hn k ih
    have k1 := lPr_ok (T := T) k hn (by omega)
    have e2 := c_readSum hn k1 e1
    have k2 := lSu_ok (T := T) k1 hn (by omega)
    have := c_unit (W := W) (T := T) (n := n) (S := lSu T n (lPr T n (lv T n l))) (o := 6 - ((l + 1 : Nat) : Int)) (dm := 5 + 11 * l + 3 + 3) hn (by omega) (fun _ => k2) (fun _ => by
      rw [show 6 - ((l + 1 : Nat) : Int) + 1 = 6 - (l : Int) by omega]
      exact e2)
    rw [decide_eq_true (show 6 - ((l + 1 : Nat) : Int) < 6 by omega)] at this
    rw [show 5 + 11 * (l + 1) = 5 + 11 * l + 3 + 3 + 5 by omega]
    exact this
def lwA (T : Int → Int) (n : Int) : zE zC := bd (lSu T n (lPr T n (lv T n 6)) 0 (0, fun _ => 0)) fun x => if sk T n x.1 < n then .inl (1, sk T n x.1) else .inr x.2
theorem lTop_ok (hn : n ≤ 150) : lOK n 21 (lSu T n (lPr T n (lv T n 6))) := lSu_ok (lPr_ok (lv_ok hn 6) hn (by decide)) hn (by decide)
theorem lwA_r {e : Int} (h0 : 0 ≤ n) (hn : n ≤ 150) (h : lSu T n (lPr T n (lv T n 6)) 0 (0, fun _ => 0) = .inr (e, c)) : lawOK c.2 c.1 ∧ 0 < c.1 ∧ 0 ≤ e ∧ e ≤ n := by
  obtain ⟨p1, p2, p3, p4, p5⟩ := (lTop_ok (T := T) hn).2 0 (0, fun _ => 0) e c (by omega) h0 h
  obtain ⟨w1, w2⟩ := p5 (fun k hk => absurd hk (by omega)) (by decide) (by decide)
  have e0 : hgt (fun _ : Int => (0 : Int)) 0 = 0 := rfl
  dsimp only at p3 p4 w2
  rw [e0] at w2
  refine ⟨⟨by omega, by omega, w1⟩, p3, by omega, p2⟩
theorem C_law (hd : 90 ≤ d) (h : tpC T I A) (hn : wI n) : if 0 ≤ n ∧ n ≤ 150 ∧ n ≤ I 3 1 then (match lwA T n with
    | .inl (k, p) => ∃ I' A', fi ((19, 5) :: oK) I I' ∧ fr [21] A A' ∧ I' 3 1 = 0 ∧ I' 3 7 = p ∧ q_call q_MT d 115 [.ref 2, .int (zI n)] (zM I A W) = some (.inl (some (.int (zI (k - 10)))), zM I' A' W)
    | .inr c => ∃ I' A', fi ((19, 4) :: (19, 5) :: oK) I I' ∧ fr [20, 21] A A' ∧ I' 3 1 = 0 ∧ I' 3 7 = -1 ∧ cL (evF c.2 c.1) I' A' ∧ q_call q_MT d 115 [.ref 2, .int (zI n)] (zM I A W) = some (.inl (some (.int (zI 1))), zM I' A' W)) else q_call q_MT d 115 [.ref 2, .int (zI n)] (zM I A W) = qIl I A W := by
  obtain ⟨d, rfl⟩ : ∃ e, d = e + 1 := ⟨d - 1, by omega⟩
  obtain ⟨d, rfl⟩ : ∃ e, d = e + 1 := ⟨d - 1, by omega⟩
  rw [cl_X10_law, k_X10_law_0]
  split
  · rename_i q
    obtain ⟨I1, x1, x2, x3, x4, x5⟩ := c_openText (W := W) (d := d + 1) (m := 150) (by omega) h q (by omega)
    have f1 : fi [(19, 5)] I1 (u2 I1 19 5 0) := fi.refl.f rfl
    have top := c_readSum (W := W) (T := T) (n := n) q.2.1 (lPr_ok (lv_ok q.2.1 6) q.2.1 (by decide)) (c_readProduct q.2.1 (lv_ok q.2.1 6) (c_lv q.2.1 6 (by omega))) d 0 (0, fun _ => 0) (u2 I1 19 5 0) A (by omega) (x2.fi f1 rfl) ⟨u2_s, fun k hk => absurd hk (by omega)⟩ (by decide)
    have z6 : (6 : Int) - ((6 : Nat) : Int) = 0 := rfl
    rw [z6] at top
    have fb : fi ((19, 5) :: oK) I (u2 I1 19 5 0) := (x1.wd rfl).tr (f1.wd rfl)
    unfold lwA
    rcases q2 : lSu T n (lPr T n (lv T n 6)) 0 (0, fun _ => 0) with ⟨k, p⟩ | ⟨a2, c2⟩
    · rw [q2] at top
      obtain ⟨I2, A2, y1, y2, y3, y4, y5⟩ := top
      have ea := c_answer (d := d + 1) (I := I2) (A := A2) (W := W) (by omega)
      have e3 : q_call q_MT (d + 1) 65 [.ref 19, .ref 3] (zM I1 A W) = some (.inl (some (.int (zI 0))), zM I2 A2 W) := by
        rw [cl_X5_readFrom]
        simp (implicitDefEqProofs := false) (disch := omega) only [↓rI_s, ↓rV_s, ↓rI_e, ↓rV_e, zc_eq, zc_ne, zc_lt, zc_ge, zc_gt, zc_le, zlt_t, zlt_f, zle_t, zle_f, zeq_t, zeq_f, lz, zadd, zsub, zmul, zneg, zb_e0, zb_e1, boo0, boo1, ua_s, ua_n, ua_ua, up_s, u2_s, u2_f, u2_c, u2_u2, Int.natCast_add, Int.zero_add, Int.add_zero, ↓reduceIte, ne_eq, not_true_eq_false, not_false_eq_true, Int.natCast_one, ↓k_X5_readFrom_0, ↓zp_19_5, ↓mc_19, ↓cI y5]
      refine ⟨I2, A2, fb.tr (y1.wd rfl), y2, (y1 3 1 rfl).trans ((f1 3 1 rfl).trans x3), y4, ?_⟩
      simp (implicitDefEqProofs := false) (disch := omega) only [↓rI_s, ↓rV_s, ↓rI_e, ↓rV_e, zc_eq, zc_ne, zc_lt, zc_ge, zc_gt, zc_le, zlt_t, zlt_f, zle_t, zle_f, zeq_t, zeq_f, lz, zadd, zsub, zmul, zneg, zb_e0, zb_e1, boo0, boo1, ua_s, ua_n, ua_ua, up_s, u2_s, u2_f, u2_c, u2_u2, Int.natCast_add, Int.zero_add, Int.add_zero, ↓reduceIte, ne_eq, not_true_eq_false, not_false_eq_true, Int.natCast_one, ↓mc_2, ↓cV x5, ↓zg_2_3, ↓zg_2_0, ↓mc_19, ↓cI e3, ↓mc_3, ↓cI ea, y3, ↓k_X10_law_33]
    · rw [q2] at top
      have r2 := lwA_r q.1 q.2.1 q2
      obtain ⟨I2, A2, y1, y2, y3, y4, y5, y6⟩ := top
      have sb := sk_b (T := T) r2.2.2.2
      have tb := y3.2.1 (sk T n a2)
      have ep := c_peek (W := W) (d := d) (by omega) y3
      have f0 : fi xK I2 (u2 (u2 I2 3 3 (sk T n a2)) 3 4 (sk T n a2)) := (fi.refl.f rfl).f rfl
      have g7 : u2 (u2 I2 3 3 (sk T n a2)) 3 4 (sk T n a2) 3 7 = I2 3 7 := by rw [u2_f (by decide), u2_f (by decide)]
      have g4 : u2 (u2 I2 3 3 (sk T n a2)) 3 4 (sk T n a2) 3 4 = sk T n a2 := u2_s
      generalize u2 (u2 I2 3 3 (sk T n a2)) 3 4 (sk T n a2) = I3 at ep f0 g7 g4
      have c5 : I3 19 5 = c2.1 := (f0 19 5 rfl).trans y5.1
      have i31 : I3 3 1 = 0 := (f0 3 1 rfl).trans ((y1 3 1 rfl).trans ((f1 3 1 rfl).trans x3))
      have i37 : I3 3 7 = -1 := g7.trans (y4.trans ((f1 3 7 rfl).trans x4))
      have fJ : fi ((19, 5) :: oK) I I3 := (fb.tr (y1.wd rfl)).tr (f0.wd rfl)
      show match (if sk T n a2 < n then .inl (1, sk T n a2) else .inr c2 : zE zC) with
        | .inl (k, p) => _
        | .inr c => _
      by_cases c : sk T n a2 < n
      · rw [if_pos c]
        rw [if_pos c] at ep
        have ef := c_fail (I := I3) (A := A2) (W := W) (d := d) (k := 1) (p := sk T n a2) (by omega)
        have e3 : q_call q_MT (d + 1) 65 [.ref 19, .ref 3] (zM I1 A W) = some (.inl (some (.int (zI 0))), zM (u2 (u2 I3 3 6 1) 3 7 (sk T n a2)) A2 W) := by
          rw [cl_X5_readFrom]
          simp (implicitDefEqProofs := false) (disch := omega) only [↓rI_s, ↓rV_s, ↓rI_e, ↓rV_e, zc_eq, zc_ne, zc_lt, zc_ge, zc_gt, zc_le, zlt_t, zlt_f, zle_t, zle_f, zeq_t, zeq_f, lz, zadd, zsub, zmul, zneg, zb_e0, zb_e1, boo0, boo1, ua_s, ua_n, ua_ua, up_s, u2_s, u2_f, u2_c, u2_u2, Int.natCast_add, Int.zero_add, Int.add_zero, ↓reduceIte, ne_eq, not_true_eq_false, not_false_eq_true, Int.natCast_one, ↓k_X5_readFrom_0, ↓zp_19_5, ↓mc_19, ↓cI y6, ↓mc_3, ↓cI ep, ↓zg_3_4, g4, ↓cI ef]
        have ea := c_answer (d := d + 1) (I := u2 (u2 I3 3 6 1) 3 7 (sk T n a2)) (A := A2) (W := W) (by omega)
        rw [show u2 (u2 I3 3 6 1) 3 7 (sk T n a2) 3 6 = 1 from rfl] at ea
        refine ⟨u2 (u2 I3 3 6 1) 3 7 (sk T n a2), A2, (fJ.f rfl).f rfl, y2, ?_, u2_s, ?_⟩
        · rw [u2_f (by decide), u2_f (by decide)]; exact i31
        · simp (implicitDefEqProofs := false) (disch := omega) only [↓rI_s, ↓rV_s, ↓rI_e, ↓rV_e, zc_eq, zc_ne, zc_lt, zc_ge, zc_gt, zc_le, zlt_t, zlt_f, zle_t, zle_f, zeq_t, zeq_f, lz, zadd, zsub, zmul, zneg, zb_e0, zb_e1, boo0, boo1, ua_s, ua_n, ua_ua, up_s, u2_s, u2_f, u2_c, u2_u2, Int.natCast_add, Int.zero_add, Int.add_zero, ↓reduceIte, ne_eq, not_true_eq_false, not_false_eq_true, Int.natCast_one, ↓mc_2, ↓cV x5, ↓zg_2_3, ↓zg_2_0, ↓mc_19, ↓cI e3, ↓mc_3, ↓cI ea, ↓k_X10_law_33]
      · rw [if_neg c]
        rw [if_neg c] at ep
        have l150 := r2.1.1
        have e3 : q_call q_MT (d + 1) 65 [.ref 19, .ref 3] (zM I1 A W) = some (.inl (some (.int (zI 1))), zM (u2 I3 19 4 c2.1) (ua A2 20 (uc (A2 21) (A2 20) 0 0 c2.1)) W) := by
          rw [cl_X5_readFrom]
          simp (implicitDefEqProofs := false) (disch := omega) only [↓rI_s, ↓rV_s, ↓rI_e, ↓rV_e, zc_eq, zc_ne, zc_lt, zc_ge, zc_gt, zc_le, zlt_t, zlt_f, zle_t, zle_f, zeq_t, zeq_f, lz, zadd, zsub, zmul, zneg, zb_e0, zb_e1, boo0, boo1, ua_s, ua_n, ua_ua, up_s, u2_s, u2_f, u2_c, u2_u2, Int.natCast_add, Int.zero_add, Int.add_zero, ↓reduceIte, ne_eq, not_true_eq_false, not_false_eq_true, Int.natCast_one, ↓k_X5_readFrom_0, ↓zp_19_5, ↓mc_19, ↓cI y6, ↓mc_3, ↓cI ep, ↓zg_19_1, ↓zg_19_0, ↓zg_19_5, c5, zc_21_20, ↓zp_19_4]
        refine ⟨u2 I3 19 4 c2.1, ua A2 20 (uc (A2 21) (A2 20) 0 0 c2.1), (fJ.wd rfl).f rfl, (y2.wd rfl).a rfl, (u2_c (by decide)).trans i31, (u2_c (by decide)).trans i37, ⟨c2.2, c2.1, u2_s, fun k k0 k1 => ?_, r2.1, fun f => rfl⟩, ?_⟩
        · rw [ua_s, uc_in (by omega) (by omega), show 0 + (k - 0) = k by omega]
          have := y5.2 k.toNat (by omega)
          rw [Int.toNat_of_nonneg k0] at this
          exact this
        · simp (implicitDefEqProofs := false) (disch := omega) only [↓rI_s, ↓rV_s, ↓rI_e, ↓rV_e, zc_eq, zc_ne, zc_lt, zc_ge, zc_gt, zc_le, zlt_t, zlt_f, zle_t, zle_f, zeq_t, zeq_f, lz, zadd, zsub, zmul, zneg, zb_e0, zb_e1, boo0, boo1, ua_s, ua_n, ua_ua, up_s, u2_s, u2_f, u2_c, u2_u2, Int.natCast_add, Int.zero_add, Int.add_zero, ↓reduceIte, ne_eq, not_true_eq_false, not_false_eq_true, Int.natCast_one, ↓mc_2, ↓cV x5, ↓zg_2_3, ↓zg_2_0, ↓mc_19, ↓cI e3, ↓k_X10_law_33]
  · rename_i q
    have e := c_openText_f (W := W) (d := d + 1) (m := 150) (by omega) h q (by omega) hn
    simp (implicitDefEqProofs := false) (disch := omega) only [↓rI_s, ↓rV_s, ↓rI_e, ↓rV_e, zc_eq, zc_ne, zc_lt, zc_ge, zc_gt, zc_le, zlt_t, zlt_f, zle_t, zle_f, zeq_t, zeq_f, lz, zadd, zsub, zmul, zneg, zb_e0, zb_e1, boo0, boo1, ua_s, ua_n, ua_ua, up_s, u2_s, u2_f, u2_c, u2_u2, Int.natCast_add, Int.zero_add, Int.add_zero, ↓reduceIte, ne_eq, not_true_eq_false, not_false_eq_true, Int.natCast_one, ↓mc_2, e, t0_1]
end LE
