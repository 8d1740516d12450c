--DEPS 9d.roomp
section MQ2
variable {d : Nat} {I I' : Nat → Nat → Int} {A : Nat → Int → Int} {W : qWt} {T : Int → Int} {n a : Int} {D : zD}
theorem m_rmLoop : ∀ (m c : Nat) (D : zD) (a : Int) (I : Nat → Nat → Int) (A : Nat → Int → Int) (l3 : Value), 5 ≤ d → (n - a).toNat < m → c ≤ 60 → mTx T n a I A → I 59 5 = -1 → mD D I A → dOK D → match rmS T n m c D a with
    | .inl (k, p) => ∃ I' A' l2 l3', fi qK5 I I' ∧ fr qL5 A A' ∧ I' 59 6 = k ∧ I' 59 5 = p ∧ 0 ≤ p ∧ p ≤ 600 ∧ q_run qm_X11_room (q_call q_MT d) 44 [.ref 59, .int (zI n), .int (zI c), l3] [] (zM I A W) = q_run qm_X11_room (q_call q_MT d) 180 [.ref 59, .int (zI n), l2, l3'] [] (zM I' A' W)
    | .inr (_, D') => ∃ I' A' l2 l3', fi qK5 I I' ∧ fr qL5 A A' ∧ I' 59 5 = -1 ∧ mD D' I' A' ∧ dOK D' ∧ q_run qm_X11_room (q_call q_MT d) 44 [.ref 59, .int (zI n), .int (zI c), l3] [] (zM I A W) = q_run qm_X11_room (q_call q_MT d) 180 [.ref 59, .int (zI n), l2, l3'] [] (zM I' A' W) := by
  intro m
  induction m with
  | zero => intro c D a I A l3 _ hm; omega
  | succ m ih =>
    intro c D a I A l3 hd hm hc h hb5 hD hk
    have han := h.2.2.2.2.2.1
    have ha0 := h.2.2.2.2.1
    have hn6 := h.2.2.2.2.2.2
    have sb := sk_b (T := T) han
    have h' : mTx T n (sk T n a) (u2 I 59 4 (sk T n a)) A := h.u (u2_f (by decide)) u2_s (by omega) sb.2
    have fI0 : fi yK I (u2 I 59 4 (sk T n a)) := fi.refl.f rfl
    have b5 : u2 I 59 4 (sk T n a) 59 5 = -1 := by rw [u2_f (by decide)]; exact hb5
    unfold rmS
    by_cases q : sk T n a < n
    · rw [if_pos q]
      have badc : ∀ k : Int, fi qK5 I (u2 (u2 (u2 I 59 4 (sk T n a)) 59 5 (sk T n a)) 59 6 k) := fun k => ((fi.refl.f rfl).f rfl).f rfl
      by_cases w : ∃ i : Nat, i < 5 ∧ wq T (sk T n a) (gE (qL' T) n (sk T n a)) i
      · obtain ⟨i, hi, w⟩ := w
        rcases rmC_w (c := c) hi w hc hk with ⟨l, e⟩ | ⟨l, e⟩
        · rw [e]
          refine ⟨u2 (u2 (u2 I 59 4 (sk T n a)) 59 5 (sk T n a)) 59 6 3, A, .int (zI c), .int (zI (lcs i)), badc 3, fr.refl, u2_s, by rw [u2_f (by decide), u2_s], by omega, by omega, ?_⟩
          exact m_lim hi (by omega) h hb5 hD hk hc q w l
        · have c6 : c < 60 := by
            unfold rLim at l
            omega
          have er := m_to149 (l3 := l3) (W := W) (d := d) hi (by omega) h hb5 hD hk hc q w l
          have dg := gE_b (q := qL' T) sb.2
          have ep := m_pass (W := W) (d := d) (by omega) h'
          rw [u2_u2] at ep
          have h2 : mTx T n (gE (qL' T) n (sk T n a)) (u2 I 59 4 (gE (qL' T) n (sk T n a))) A := h.u (u2_f (by decide)) u2_s (by omega) dg.2.1
          have fI1 : fi yK I (u2 I 59 4 (gE (qL' T) n (sk T n a))) := fi.refl.f rfl
          have b5' : u2 I 59 4 (gE (qL' T) n (sk T n a)) 59 5 = -1 := by rw [u2_f (by decide)]; exact hb5
          have f1 := m_fine (I := u2 I 59 4 (sk T n a)) (A := A) (W := W) (d := d) (by omega) (by rw [b5]; decide)
          rw [zb_t b5] at f1
          have y := m_rowI (W := W) (d := d) (c := c) hi (by omega) h2 b5' (hD.k fI1) hk l
          rw [e]
          rcases hr : rK i T n D (gE (qL' T) n (sk T n a)) with ⟨k, p⟩ | ⟨e2, D2⟩
          · rw [hr] at y
            obtain ⟨I1, A1, x1, x2, x3, x4, x5, x6, x7⟩ := y
            have w5 : wI (I1 59 5) := by rw [x4]; omega
            have n5 : I1 59 5 ≠ -1 := by rw [x4]; omega
            have es := m_sign_b (I := I1) (A := A1) (W := W) (d := d) (c := 59) (by omega) n5 w5
            have f2 := m_fine (I := I1) (A := A1) (W := W) (d := d) (by omega) w5
            rw [zb_f n5] at f2
            refine ⟨I1, A1, .int (zI ((c : Int) + 1)), .int (zI (lcs i)), (fI1.wd rfl).tr x1, x2, x3, x4, x5, x6, ?_⟩
            rw [er, k_X11_room_149]
            simp (implicitDefEqProofs := false) (disch := omega) only [↓rI_s, ↓rV_s, ↓rI_e, ↓rV_e, zc_eq, zc_ne, zc_lt, zc_ge, zc_gt, zc_le, zlt_t, zlt_f, zle_t, zle_f, zeq_t, zeq_f, lz, zadd, zsub, zmul, zneg, zb_e0, zb_e1, boo0, boo1, ua_s, ua_n, ua_ua, up_s, u2_s, u2_f, u2_c, u2_u2, Int.natCast_add, Int.zero_add, Int.add_zero, ↓reduceIte, ne_eq, not_true_eq_false, not_false_eq_true, Int.natCast_one, ↓mc_59, ↓cI f1, ↓cV ep, ↓cV x7, ↓cV es]
            rw [k_X11_room_44]
            simp (implicitDefEqProofs := false) (disch := omega) only [↓rI_s, ↓rV_s, ↓rI_e, ↓rV_e, zc_eq, zc_ne, zc_lt, zc_ge, zc_gt, zc_le, zlt_t, zlt_f, zle_t, zle_f, zeq_t, zeq_f, lz, zadd, zsub, zmul, zneg, zb_e0, zb_e1, boo0, boo1, ua_s, ua_n, ua_ua, up_s, u2_s, u2_f, u2_c, u2_u2, Int.natCast_add, Int.zero_add, Int.add_zero, ↓reduceIte, ne_eq, not_true_eq_false, not_false_eq_true, Int.natCast_one, ↓mc_59, ↓cI f2]
          · rw [hr] at y
            obtain ⟨I1, A1, x1, x2, x3, x4, x5, x6⟩ := y
            have r1 : a < e2 ∧ e2 ≤ n ∧ dOK D2 := rmC_r (m := c < 60) han hk (e.trans hr)
            have es := m_sign (c := 59) (W := W) (d := d) (by omega) x3 (by omega) x4
            show match bd (sgnS T n 59 e2) (fun e => rmS T n m (c + 1) D2 e) with
              | .inl (k, p) => _
              | .inr (_, D') => _
            rcases hq3 : sgnS T n 59 e2 with ⟨k, p⟩ | e4
            · rw [hq3] at es
              have r3 := sgnS_l (by omega) hq3
              obtain ⟨I2, z1, z2, z3, z4, z5⟩ := es
              have w5 : wI (I2 59 5) := by rw [z4]; omega
              have n5 : I2 59 5 ≠ -1 := by rw [z4]; omega
              have f2 := m_fine (I := I2) (A := A1) (W := W) (d := d) (by omega) w5
              rw [zb_f n5] at f2
              refine ⟨I2, A1, .int (zI ((c : Int) + 1)), .int (zI (lcs i)), ((fI1.wd rfl).tr x1).tr (z1.wd rfl), x2, z3, z4, by omega, by omega, ?_⟩
              rw [er, k_X11_room_149]
              simp (implicitDefEqProofs := false) (disch := omega) only [↓rI_s, ↓rV_s, ↓rI_e, ↓rV_e, zc_eq, zc_ne, zc_lt, zc_ge, zc_gt, zc_le, zlt_t, zlt_f, zle_t, zle_f, zeq_t, zeq_f, lz, zadd, zsub, zmul, zneg, zb_e0, zb_e1, boo0, boo1, ua_s, ua_n, ua_ua, up_s, u2_s, u2_f, u2_c, u2_u2, Int.natCast_add, Int.zero_add, Int.add_zero, ↓reduceIte, ne_eq, not_true_eq_false, not_false_eq_true, Int.natCast_one, ↓mc_59, ↓cI f1, ↓cV ep, ↓cV x6, ↓cV z5]
              rw [k_X11_room_44]
              simp (implicitDefEqProofs := false) (disch := omega) only [↓rI_s, ↓rV_s, ↓rI_e, ↓rV_e, zc_eq, zc_ne, zc_lt, zc_ge, zc_gt, zc_le, zlt_t, zlt_f, zle_t, zle_f, zeq_t, zeq_f, lz, zadd, zsub, zmul, zneg, zb_e0, zb_e1, boo0, boo1, ua_s, ua_n, ua_ua, up_s, u2_s, u2_f, u2_c, u2_u2, Int.natCast_add, Int.zero_add, Int.add_zero, ↓reduceIte, ne_eq, not_true_eq_false, not_false_eq_true, Int.natCast_one, ↓mc_59, ↓cI f2]
            · rw [hq3] at es
              have r3 := sgnS_r (by omega) hq3
              obtain ⟨I2, z1, z2, z3, z4⟩ := es
              have y := ih (c + 1) D2 e4 I2 A1 (.int (zI (lcs i))) hd (by omega) (by omega) z2 z3 (x5.k z1) r1.2.2
              have er2 : q_run qm_X11_room (q_call q_MT d) 44 [.ref 59, .int (zI n), .int (zI c), l3] [] (zM I A W) = q_run qm_X11_room (q_call q_MT d) 44 [.ref 59, .int (zI n), .int (zI ((c + 1 : Nat) : Int)), .int (zI (lcs i))] [] (zM I2 A1 W) := by
                rw [er, k_X11_room_149]
                simp (implicitDefEqProofs := false) (disch := omega) only [↓rI_s, ↓rV_s, ↓rI_e, ↓rV_e, zc_eq, zc_ne, zc_lt, zc_ge, zc_gt, zc_le, zlt_t, zlt_f, zle_t, zle_f, zeq_t, zeq_f, lz, zadd, zsub, zmul, zneg, zb_e0, zb_e1, boo0, boo1, ua_s, ua_n, ua_ua, up_s, u2_s, u2_f, u2_c, u2_u2, Int.natCast_add, Int.zero_add, Int.add_zero, ↓reduceIte, ne_eq, not_true_eq_false, not_false_eq_true, Int.natCast_one, ↓mc_59, ↓cI f1, ↓cV ep, ↓cV x6, ↓cV z4]
              rw [er2]
              have fJ : fi qK5 I I2 := ((fI1.wd rfl).tr x1).tr (z1.wd rfl)
              show match rmS T n m (c + 1) D2 e4 with
                | .inl (k, p) => _
                | .inr (_, D') => _
              rcases hs : rmS T n m (c + 1) D2 e4 with ⟨k, p⟩ | ⟨e5, D3⟩
              · rw [hs] at y
                obtain ⟨I3, A3, l2, l3', w1, w2, w3, w4, w5, w6, w7⟩ := y
                exact ⟨I3, A3, l2, l3', fJ.tr w1, x2.tr w2, w3, w4, w5, w6, w7⟩
              · rw [hs] at y
                obtain ⟨I3, A3, l2, l3', w1, w2, w3, w4, w5, w6⟩ := y
                exact ⟨I3, A3, l2, l3', fJ.tr w1, x2.tr w2, w3, w4, w5, w6⟩
      · have w' : ∀ j : Nat, j < 5 → ¬ wq T (sk T n a) (gE (qL' T) n (sk T n a)) j := fun j hj w2 => w ⟨j, hj, w2⟩
        rw [rmC_n w']
        obtain ⟨l3', e⟩ := m_now (c := c) (l3 := l3) (W := W) (d := d) (by omega) h hb5 q w'
        exact ⟨u2 (u2 (u2 I 59 4 (sk T n a)) 59 5 (sk T n a)) 59 6 1, A, .int (zI c), l3', badc 1, fr.refl, u2_s, by rw [u2_f (by decide), u2_s], by omega, by omega, e⟩
    · rw [if_neg q]
      have f1 := m_fine (I := I) (A := A) (W := W) (d := d) (by omega) (by omega)
      rw [zb_t hb5] at f1
      have im := m_isMore (W := W) (d := d) (by omega) h
      rw [zb_f q] at im
      refine ⟨u2 I 59 4 (sk T n a), A, .int (zI c), l3, fI0.wd rfl, fr.refl, b5, hD.k fI0, hk, ?_⟩
      rw [k_X11_room_44]
      simp (implicitDefEqProofs := false) (disch := omega) only [↓rI_s, ↓rV_s, ↓rI_e, ↓rV_e, zc_eq, zc_ne, zc_lt, zc_ge, zc_gt, zc_le, zlt_t, zlt_f, zle_t, zle_f, zeq_t, zeq_f, lz, zadd, zsub, zmul, zneg, zb_e0, zb_e1, boo0, boo1, ua_s, ua_n, ua_ua, up_s, u2_s, u2_f, u2_c, u2_u2, Int.natCast_add, Int.zero_add, Int.add_zero, ↓reduceIte, ne_eq, not_true_eq_false, not_false_eq_true, Int.natCast_one, ↓mc_59, ↓cI f1, ↓cI im]
theorem m_liesOnFelt (hd : 1 ≤ d) (hD : mD D I A) (hk : dOK D) : q_call q_MT d 188 [.ref 59] (zM I A W) = some (.inl (some (.int (zI (zb (onF D))))), zM I A W) := by
  obtain ⟨d, rfl⟩ : ∃ e, d = e + 1 := ⟨d - 1, by omega⟩
  obtain ⟨k0, k1, k2, k3, k4, k5, k6, k7⟩ := hk
  obtain ⟨j0, j1, j2, j3, j4, q5, q6, q7⟩ := hD
  obtain ⟨N1, hN1⟩ := Int.eq_ofNat_of_zero_le k1.1
  obtain ⟨N2, hN2⟩ := Int.eq_ofNat_of_zero_le k2.1
  rw [cl_X11_liesOnFelt]
  simp (implicitDefEqProofs := false) (disch := omega) only [↓rI_s, ↓rV_s, ↓rI_e, ↓rV_e, zc_eq, zc_ne, zc_lt, zc_ge, zc_gt, zc_le, zlt_t, zlt_f, zle_t, zle_f, zeq_t, zeq_f, lz, zadd, zsub, zmul, zneg, zb_e0, zb_e1, boo0, boo1, ua_s, ua_n, ua_ua, up_s, u2_s, u2_f, u2_c, u2_u2, Int.natCast_add, Int.zero_add, Int.add_zero, ↓reduceIte, ne_eq, not_true_eq_false, not_false_eq_true, Int.natCast_one, ↓k_X11_liesOnFelt_0]
  rw [hN1] at j1 k1 k6 q6
  rw [hN2] at j2 k2 k7 q7
  have t1 : (D.1 1).toNat = N1 := by omega
  have t2 : (D.1 2).toNat = N2 := by omega
  refine lp_x (fun j (_ : Unit) => q_run qm_X11_liesOnFelt (q_call q_MT d) 2 [.ref 59, .int (zI j)] [] (zM I A W)) (fun j _ => ∀ i : Nat, i < j → D.2 16 i < D.1 3) (fun r => r = _) N1 ?_ ?_ 0 () (by omega) (fun i hi => absurd hi (by omega))
  · intro _ h1
    rw [k_X11_liesOnFelt_2]
    simp (implicitDefEqProofs := false) (disch := omega) only [↓rI_s, ↓rV_s, ↓rI_e, ↓rV_e, zc_eq, zc_ne, zc_lt, zc_ge, zc_gt, zc_le, zlt_t, zlt_f, zle_t, zle_f, zeq_t, zeq_f, lz, zadd, zsub, zmul, zneg, zb_e0, zb_e1, boo0, boo1, ua_s, ua_n, ua_ua, up_s, u2_s, u2_f, u2_c, u2_u2, Int.natCast_add, Int.zero_add, Int.add_zero, ↓reduceIte, ne_eq, not_true_eq_false, not_false_eq_true, Int.natCast_one, ↓zg_59_17, j1, Int.le_refl]
    refine lp_x (fun j (_ : Unit) => q_run qm_X11_liesOnFelt (q_call q_MT d) 37 [.ref 59, .int (zI j)] [] (zM I A W)) (fun j _ => ∀ i : Nat, i < j → D.2 17 i < D.1 3) (fun r => r = _) N2 ?_ ?_ 0 () (by omega) (fun i hi => absurd hi (by omega))
    · intro _ h2
      rw [k_X11_liesOnFelt_37, zb_t ⟨by rw [t1]; exact h1, by rw [t2]; exact h2⟩]
      simp (implicitDefEqProofs := false) (disch := omega) only [↓rI_s, ↓rV_s, ↓rI_e, ↓rV_e, zc_eq, zc_ne, zc_lt, zc_ge, zc_gt, zc_le, zlt_t, zlt_f, zle_t, zle_f, zeq_t, zeq_f, lz, zadd, zsub, zmul, zneg, zb_e0, zb_e1, boo0, boo1, ua_s, ua_n, ua_ua, up_s, u2_s, u2_f, u2_c, u2_u2, Int.natCast_add, Int.zero_add, Int.add_zero, ↓reduceIte, ne_eq, not_true_eq_false, not_false_eq_true, Int.natCast_one, ↓zg_59_18, j2, Int.le_refl]
    · intro j _ hj h2
      have b := (k7 j (by omega) (by omega)).1
      have g := (q7 j (by omega) (by omega)).1
      rw [k_X11_liesOnFelt_37]
      by_cases c : D.2 17 j < D.1 3
      · refine .inr ⟨(), fun i hi => ?_, ?_⟩
        · by_cases e : i = j
          · subst e; exact c
          · exact h2 i (by omega)
        · simp (implicitDefEqProofs := false) (disch := omega) only [↓rI_s, ↓rV_s, ↓rI_e, ↓rV_e, zc_eq, zc_ne, zc_lt, zc_ge, zc_gt, zc_le, zlt_t, zlt_f, zle_t, zle_f, zeq_t, zeq_f, lz, zadd, zsub, zmul, zneg, zb_e0, zb_e1, boo0, boo1, ua_s, ua_n, ua_ua, up_s, u2_s, u2_f, u2_c, u2_u2, Int.natCast_add, Int.zero_add, Int.add_zero, ↓reduceIte, ne_eq, not_true_eq_false, not_false_eq_true, Int.natCast_one, ↓zg_59_18, j2, ↓zg_59_12, zl_64, g, ↓zg_59_19, j3]
      · refine .inl ?_
        rw [zb_f (fun q => c (q.2 j (by omega)))]
        simp (implicitDefEqProofs := false) (disch := omega) only [↓rI_s, ↓rV_s, ↓rI_e, ↓rV_e, zc_eq, zc_ne, zc_lt, zc_ge, zc_gt, zc_le, zlt_t, zlt_f, zle_t, zle_f, zeq_t, zeq_f, lz, zadd, zsub, zmul, zneg, zb_e0, zb_e1, boo0, boo1, ua_s, ua_n, ua_ua, up_s, u2_s, u2_f, u2_c, u2_u2, Int.natCast_add, Int.zero_add, Int.add_zero, ↓reduceIte, ne_eq, not_true_eq_false, not_false_eq_true, Int.natCast_one, ↓zg_59_18, j2, ↓zg_59_12, zl_64, g, ↓zg_59_19, j3]
  · intro j _ hj h1
    have b := (k6 j (by omega) (by omega)).2.2
    have g := (q6 j (by omega) (by omega)).2.2
    rw [k_X11_liesOnFelt_2]
    by_cases c : D.2 16 j < D.1 3
    · refine .inr ⟨(), fun i hi => ?_, ?_⟩
      · by_cases e : i = j
        · subst e; exact c
        · exact h1 i (by omega)
      · simp (implicitDefEqProofs := false) (disch := omega) only [↓rI_s, ↓rV_s, ↓rI_e, ↓rV_e, zc_eq, zc_ne, zc_lt, zc_ge, zc_gt, zc_le, zlt_t, zlt_f, zle_t, zle_f, zeq_t, zeq_f, lz, zadd, zsub, zmul, zneg, zb_e0, zb_e1, boo0, boo1, ua_s, ua_n, ua_ua, up_s, u2_s, u2_f, u2_c, u2_u2, Int.natCast_add, Int.zero_add, Int.add_zero, ↓reduceIte, ne_eq, not_true_eq_false, not_false_eq_true, Int.natCast_one, ↓zg_59_17, j1, ↓zg_59_11, zl_63, g, ↓zg_59_19, j3]
    · refine .inl ?_
      rw [zb_f (fun q => c (q.1 j (by omega)))]
      simp (implicitDefEqProofs := false) (disch := omega) only [↓rI_s, ↓rV_s, ↓rI_e, ↓rV_e, zc_eq, zc_ne, zc_lt, zc_ge, zc_gt, zc_le, zlt_t, zlt_f, zle_t, zle_f, zeq_t, zeq_f, lz, zadd, zsub, zmul, zneg, zb_e0, zb_e1, boo0, boo1, ua_s, ua_n, ua_ua, up_s, u2_s, u2_f, u2_c, u2_u2, Int.natCast_add, Int.zero_add, Int.add_zero, ↓reduceIte, ne_eq, not_true_eq_false, not_false_eq_true, Int.natCast_one, ↓zg_59_17, j1, ↓zg_59_11, zl_63, g, ↓zg_59_19, j3]
end MQ2
