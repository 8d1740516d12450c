--DEPS 9u.playo
section PQ
variable {d : Nat} {I I' : Nat → Nat → Int} {A : Nat → Int → Int} {W : qWt} {T : Int → Int} {n a w : Int} {p : zPg} {R : zR} {F : zF} {s : Int → Int} {l : zL}
theorem m_plLoop {lev l dm : Nat} {l1 l2 l3 : Value} (hS : qOK R n lev 4 (qSs T n (qv T n w l))) (hin : mRq W T n w 0 dm (qv T n w l)) (hd : dm ≤ d ∧ 3 ≤ d) : ∀ (m : Nat) (a : Int) (p : zPg) (I : Nat → Nat → Int) (A : Nat → Int → Int), (n - a).toNat < m → 4 * (p.1 : Int) ≤ a → mTx T n a I A → I 59 5 = -1 → I 59 7 = 0 → I 59 22 = w → mQ p I A → match qRw T n false (qv T n w l) m a p with
    | .inl (k, q) => ∃ I' A', fi pKm I I' ∧ fr [74] A A' ∧ I' 59 6 = k ∧ I' 59 5 = q ∧ 0 ≤ q ∧ q ≤ 600 ∧ q_run qm_X11_play (q_call q_MT d) 68 [.ref 59, l1, l2, l3] [] (zM I A W) = q_run qm_X11_play (q_call q_MT d) 89 [.ref 59, l1, l2, l3] [] (zM I' A' W)
    | .inr (_, p') => ∃ I' A', fi pKm I I' ∧ fr [74] A A' ∧ I' 59 5 = -1 ∧ mQ p' I' A' ∧ q_run qm_X11_play (q_call q_MT d) 68 [.ref 59, l1, l2, l3] [] (zM I A W) = q_run qm_X11_play (q_call q_MT d) 89 [.ref 59, l1, l2, l3] [] (zM I' A' W) := by
  intro m
  induction m with
  | zero => intro a p I A hm; omega
  | succ m ih =>
    intro a p I A hm hpa h hb5 h7 h22 hQ
    have han := h.2.2.2.2.2.1
    have ha0 := h.2.2.2.2.1
    have sb := sk_b (T := T) han
    have f1 := m_fine (I := I) (A := A) (W := W) (d := d) (by omega) (by omega)
    rw [zb_t hb5] at f1
    have im := m_isMore (W := W) (d := d) (by omega) h
    have h0 : mTx T n (sk T n a) (u2 I 59 4 (sk T n a)) A := h.u (u2_f (by decide)) u2_s (by omega) sb.2
    have f0 : fi aK I (u2 I 59 4 (sk T n a)) := fi.refl.f rfl
    have b0 : u2 I 59 4 (sk T n a) 59 5 = -1 := (u2_f (by decide)).trans hb5
    have g0 : u2 I 59 4 (sk T n a) 59 7 = 0 := (u2_f (by decide)).trans h7
    have k0 : u2 I 59 4 (sk T n a) 59 22 = w := (u2_f (by decide)).trans h22
    generalize u2 I 59 4 (sk T n a) = I0 at im h0 f0 b0 g0 k0
    have fc : fi pKm I I0 := f0.wd rfl
    have hQ0 := hQ.k f0
    have qe : qEnd T n false a ↔ ¬ sk T n a < n := by
      unfold qEnd
      rw [if_neg (by decide)]
    unfold qRw
    by_cases q : sk T n a < n
    · rw [if_neg (fun r => (qe.mp r) q)]
      rw [zb_t q] at im
      have e1 := hin d (sk T n a) p I0 A (by omega) h0 b0 g0 k0 hQ0 (by omega)
      have eq : qSs T n (qv T n w l) (sk T n a) p = qSs T n (qv T n w l) a p := by
        unfold qSs
        rw [qv_sk han]
      rw [eq] at e1
      rcases q1 : qSs T n (qv T n w l) a p with ⟨k, q⟩ | ⟨a1, p1⟩
      · rw [q1] at e1
        obtain ⟨I1, A1, x1, x2, x3, x4, x5, x6, x7⟩ := e1
        have w5 : wI (I1 59 5) := by rw [x4]; omega
        have n5 : I1 59 5 ≠ -1 := by rw [x4]; omega
        have f2 := m_fine (I := I1) (A := A1) (W := W) (d := d) (by omega) w5
        rw [zb_f n5] at f2
        refine ⟨I1, A1, fc.tr x1, x2, x3, x4, x5, x6, ?_⟩
        rw [k_X11_play_68]
        simp (implicitDefEqProofs := false) (disch := omega) only [↓rI_s, ↓rV_s, ↓rI_e, ↓rV_e, zc_eq, zc_ne, zc_lt, zc_ge, zc_gt, zc_le, zlt_t, zlt_f, zle_t, zle_f, zeq_t, zeq_f, lz, zadd, zsub, zmul, zneg, zb_e0, zb_e1, boo0, boo1, ua_s, ua_n, ua_ua, up_s, u2_s, u2_f, u2_c, u2_u2, Int.natCast_add, Int.zero_add, Int.add_zero, ↓reduceIte, ne_eq, not_true_eq_false, not_false_eq_true, Int.natCast_one, ↓mc_59, ↓cI f1, ↓cI im, ↓cV x7]
        rw [k_X11_play_68]
        simp (implicitDefEqProofs := false) (disch := omega) only [↓rI_s, ↓rV_s, ↓rI_e, ↓rV_e, zc_eq, zc_ne, zc_lt, zc_ge, zc_gt, zc_le, zlt_t, zlt_f, zle_t, zle_f, zeq_t, zeq_f, lz, zadd, zsub, zmul, zneg, zb_e0, zb_e1, boo0, boo1, ua_s, ua_n, ua_ua, up_s, u2_s, u2_f, u2_c, u2_u2, Int.natCast_add, Int.zero_add, Int.add_zero, ↓reduceIte, ne_eq, not_true_eq_false, not_false_eq_true, Int.natCast_one, ↓mc_59, ↓cI f2]
      · rw [q1] at e1
        obtain ⟨r1, r2, r3, r4⟩ := hS.2 _ _ _ _ ha0 han hpa q1
        rw [if_neg (by decide)] at r3
        obtain ⟨I1, A1, x1, x2, x3, x4, ⟨x5, x6⟩, x7⟩ := e1
        have y := ih a1 p1 I1 A1 (by omega) (by omega) x3 x4 x6 ((x1 59 22 rfl).trans k0) x5
        have er : q_run qm_X11_play (q_call q_MT d) 68 [.ref 59, l1, l2, l3] [] (zM I A W) = q_run qm_X11_play (q_call q_MT d) 68 [.ref 59, l1, l2, l3] [] (zM I1 A1 W) := by
          rw [k_X11_play_68]
          simp (implicitDefEqProofs := false) (disch := omega) only [↓rI_s, ↓rV_s, ↓rI_e, ↓rV_e, zc_eq, zc_ne, zc_lt, zc_ge, zc_gt, zc_le, zlt_t, zlt_f, zle_t, zle_f, zeq_t, zeq_f, lz, zadd, zsub, zmul, zneg, zb_e0, zb_e1, boo0, boo1, ua_s, ua_n, ua_ua, up_s, u2_s, u2_f, u2_c, u2_u2, Int.natCast_add, Int.zero_add, Int.add_zero, ↓reduceIte, ne_eq, not_true_eq_false, not_false_eq_true, Int.natCast_one, ↓mc_59, ↓cI f1, ↓cI im, ↓cV x7]
        rw [er]
        show match qRw T n false (qv T n w l) m a1 p1 with
          | .inl (k, q) => _
          | .inr (_, p') => _
        rcases hs : qRw T n false (qv T n w l) m a1 p1 with ⟨k, q⟩ | ⟨e, p'⟩
        · rw [hs] at y
          obtain ⟨I2, A2, y1, y2, y3⟩ := y
          exact ⟨I2, A2, (fc.tr x1).tr y1, x2.tr y2, y3⟩
        · rw [hs] at y
          obtain ⟨I2, A2, y1, y2, y3⟩ := y
          exact ⟨I2, A2, (fc.tr x1).tr y1, x2.tr y2, y3⟩
    · rw [if_pos (qe.mpr q)]
      rw [zb_f q] at im
      refine ⟨I0, A, fc, fr.refl, b0, hQ0, ?_⟩
      rw [k_X11_play_68]
      simp (implicitDefEqProofs := false) (disch := omega) only [↓rI_s, ↓rV_s, ↓rI_e, ↓rV_e, zc_eq, zc_ne, zc_lt, zc_ge, zc_gt, zc_le, zlt_t, zlt_f, zle_t, zle_f, zeq_t, zeq_f, lz, zadd, zsub, zmul, zneg, zb_e0, zb_e1, boo0, boo1, ua_s, ua_n, ua_ua, up_s, u2_s, u2_f, u2_c, u2_u2, Int.natCast_add, Int.zero_add, Int.add_zero, ↓reduceIte, ne_eq, not_true_eq_false, not_false_eq_true, Int.natCast_one, ↓mc_59, ↓cI f1, ↓cI im]
abbrev mpK : List (Nat × Nat) := [(59, 0), (59, 2), (59, 3), (59, 4), (59, 5), (59, 6), (59, 7), (59, 8), (59, 36), (59, 37), (59, 38), (59, 39), (59, 40), (59, 41)]
abbrev mpL : List Nat := [72, 73, 74, 75, 76, 77, 78, 79]
theorem M_play (hd : 60 ≤ d) (h : tpM T I A) (hn : wI n) (hX : mX R F s I A) (hl : I 59 37 = l.length) (h16 : l.length ≤ 16) (hC : mC (A 78) l) : if 0 ≤ n ∧ n ≤ 150 ∧ n ≤ I 59 2 then (if l.length = 16 then ∃ I', fi nK I I' ∧ I' 59 0 = 0 ∧ I' 59 2 = 0 ∧ I' 59 8 = -1 ∧ q_call q_MT d 203 [.ref 59, .int (zI n)] (zM I A W) = some (.inl (some (.int (zI (-20)))), zM I' A W) else match plA T n (rW R) with
    | .inl (k, q) => ∃ I' A', fi ((59, 36) :: nK) I I' ∧ fr [74] A A' ∧ I' 59 0 = 0 ∧ I' 59 2 = 0 ∧ I' 59 8 = q ∧ q_call q_MT d 203 [.ref 59, .int (zI n)] (zM I A W) = some (.inl (some (.int (zI (k - 10)))), zM I' A' W)
    | .inr (_, q) => ∃ I' A', fi mpK I I' ∧ fr mpL A A' ∧ I' 59 0 = 0 ∧ I' 59 2 = 0 ∧ I' 59 8 = -1 ∧ I' 59 37 = (l.length : Int) + 1 ∧ I' 59 38 = (plSt R F q s).2.2.1 ∧ mR R I' A' ∧ mL F I' A' ∧ sN R (plSt R F q s).2.2.2 ∧ (∀ k : Int, 0 ≤ k → k < 47 → A' 76 k = (plSt R F q s).2.2.2 k) ∧ mC (A' 78) (s :: l) ∧ q_call q_MT d 203 [.ref 59, .int (zI n)] (zM I A W) = some (.inl (some (.int (zI (plSt R F q s).2.1))), zM I' A' W)) else q_call q_MT d 203 [.ref 59, .int (zI n)] (zM I A W) = some (.inl (some (.int (zI 0))), zM (u2 I 59 0 1) (mRf A 1) W) := by
  obtain ⟨d, rfl⟩ : ∃ e, d = e + 1 := ⟨d - 1, by omega⟩
  obtain ⟨hR, hs, hN, hL⟩ := hX
  have h10 := hR.1.2.1
  rw [cl_X11_play, k_X11_play_0]
  have hts := h.2.2
  split
  · rename_i q
    have h' : tpM T (u2 I 59 0 0) A := h
    have my := s_may1 (I := I) (A := A) (W := W) (d := d) (c := 1) (k := 1) (by omega)
    obtain ⟨I1, x1, x2, x3, x4, x5, x6, x7⟩ := m_begins (W := W) (d := d) (n := n) (by omega) h' ⟨q.1, q.2.2⟩
    have f0 : fi nK I I1 := (fi.refl.f (c := 59) (f := 0) (v := 0) rfl).tr (x1.wd rfl)
    have z0 : I1 59 0 = 0 := (x1 59 0 rfl).trans u2_s
    have i37 : I1 59 37 = l.length := (f0 59 37 rfl).trans hl
    split
    · rename_i q16
      have er := m_result (d := d) (I := I1) (A := A) (W := W) (g := 0) (by omega) x3
      refine ⟨u2 I1 59 8 (-1), f0.f rfl, (u2_f (by decide)).trans z0, (u2_f (by decide)).trans x4, u2_s, ?_⟩
      simp (implicitDefEqProofs := false) (disch := omega) only [↓rI_s, ↓rV_s, ↓rI_e, ↓rV_e, zc_eq, zc_ne, zc_lt, zc_ge, zc_gt, zc_le, zlt_t, zlt_f, zle_t, zle_f, zeq_t, zeq_f, lz, zadd, zsub, zmul, zneg, zb_e0, zb_e1, boo0, boo1, ua_s, ua_n, ua_ua, up_s, u2_s, u2_f, u2_c, u2_u2, Int.natCast_add, Int.zero_add, Int.add_zero, ↓reduceIte, ne_eq, not_true_eq_false, not_false_eq_true, Int.natCast_one, ↓zp_59_0, ↓zg_59_2, ↓k_X11_play_30, ↓mc_59, ↓cI my, ↓cV x7, ↓zg_59_37, i37, ↓cI er]
    · rename_i q16
      have f1 : fi [(59, 36)] I1 (u2 I1 59 36 0) := fi.refl.f rfl
      have hI2 : ∃ I2, I2 = u2 I1 59 36 0 := ⟨_, rfl⟩
      obtain ⟨I2, hI2⟩ := hI2
      rw [← hI2] at f1
      have h2 : mTx T n 0 I2 A := x2.fi f1 rfl
      have b2 : I2 59 5 = -1 := (f1 59 5 rfl).trans x3
      have g2 : I2 59 7 = 0 := (f1 59 7 rfl).trans x5
      have k2 : I2 59 22 = rW R := (f1 59 22 rfl).trans ((f0 59 22 rfl).trans hR.2.2.1)
      have z2 : I2 59 0 = 0 := (f1 59 0 rfl).trans z0
      have t2 : I2 59 2 = 0 := (f1 59 2 rfl).trans x4
      have j37 : I2 59 37 = l.length := (f1 59 37 rfl).trans i37
      have hQ2 : mQ (0, fun _ => 0, fun _ => 0, fun _ => 0) I2 A := ⟨by rw [hI2, u2_s]; rfl, fun j hj => absurd hj (by omega)⟩
      have fb : fi ((59, 36) :: nK) I I2 := (f0.wd rfl).tr (f1.wd rfl)
      have lp := m_plLoop (W := W) (d := d) (l1 := .int (zI n)) (l2 := q_junk) (l3 := q_junk) (qSs_ok (T := T) (qv_ok (T := T) (R := R) q.2.1 rfl 6)) (m_qv (W := W) (T := T) (R := R) q.2.1 rfl (by omega) 6 (by omega)) ⟨by omega, by omega⟩ 151 0 (0, fun _ => 0, fun _ => 0, fun _ => 0) I2 A (by omega) (by decide) h2 b2 g2 k2 hQ2
      have tp : qRw T n false (qv T n (rW R) 6) 151 0 (0, fun _ => 0, fun _ => 0, fun _ => 0) = plA T n (rW R) := rfl
      rw [tp] at lp
      rcases q2 : plA T n (rW R) with ⟨k, pp⟩ | ⟨a2, qq⟩
      · rw [q2] at lp
        obtain ⟨I3, A3, y1, y2, y3, y4, y5, y6, y7⟩ := lp
        have er := m_result_b (d := d) (I := I3) (A := A3) (W := W) (g := 0) (by omega) (by omega)
        rw [y3, y4] at er
        refine ⟨u2 I3 59 8 pp, A3, (fb.tr (y1.wd rfl)).f rfl, y2, (u2_f (by decide)).trans ((y1 59 0 rfl).trans z2), (u2_f (by decide)).trans ((y1 59 2 rfl).trans t2), u2_s, ?_⟩
        rw [hI2] at y7
        simp (implicitDefEqProofs := false) (disch := omega) only [↓rI_s, ↓rV_s, ↓rI_e, ↓rV_e, zc_eq, zc_ne, zc_lt, zc_ge, zc_gt, zc_le, zlt_t, zlt_f, zle_t, zle_f, zeq_t, zeq_f, lz, zadd, zsub, zmul, zneg, zb_e0, zb_e1, boo0, boo1, ua_s, ua_n, ua_ua, up_s, u2_s, u2_f, u2_c, u2_u2, Int.natCast_add, Int.zero_add, Int.add_zero, ↓reduceIte, ne_eq, not_true_eq_false, not_false_eq_true, Int.natCast_one, ↓zp_59_0, ↓zg_59_2, ↓k_X11_play_30, ↓mc_59, ↓cI my, ↓cV x7, ↓zg_59_37, i37, ↓zp_59_36, y7, ↓k_X11_play_89, ↓cI er, ↓zg_59_5, y4]
      · rw [q2] at lp
        obtain ⟨r1, kk, r2⟩ := plA_r (R := R) q.1 q.2.1 rfl q2
        obtain ⟨I3, A3, y1, y2, y3, y4, y5⟩ := lp
        have g36 := y4.1
        have er := m_result (d := d) (I := I3) (A := A3) (W := W) (g := 0) (by omega) y3
        have fJ3 : fi mpK I (u2 I3 59 8 (-1)) := (((fb.wd rfl).tr (y1.wd rfl)).f rfl)
        have g3 : u2 I3 59 8 (-1) 59 36 = 3 * (qq.1 : Int) := (u2_f (by decide)).trans g36
        have w3 : u2 I3 59 8 (-1) 59 37 = l.length := (u2_f (by decide)).trans ((y1 59 37 rfl).trans j37)
        have z3 : u2 I3 59 8 (-1) 59 0 = 0 := (u2_f (by decide)).trans ((y1 59 0 rfl).trans z2)
        have t3 : u2 I3 59 8 (-1) 59 2 = 0 := (u2_f (by decide)).trans ((y1 59 2 rfl).trans t2)
        have b3 : u2 I3 59 8 (-1) 59 5 = -1 := (u2_f (by decide)).trans y3
        have e8 : u2 I3 59 8 (-1) 59 8 = -1 := u2_s
        generalize hJ : u2 I3 59 8 (-1) = J at er fJ3 g3 w3 z3 t3 b3 e8
        have ec := m_copies_74_75 (d := d) (I := J) (A := A3) (W := W) (n := 3 * qq.1) (by omega) (by omega)
        have e3q : ((3 * qq.1 : Nat) : Int) = 3 * (qq.1 : Int) := by omega
        rw [e3q] at ec
        generalize hA4 : ua A3 75 (cpy (3 * qq.1) (A3 74) (A3 75)) = A4 at ec
        have fA4 : fr [74, 75] A A4 := by
          rw [← hA4]
          exact (y2.wd rfl).a rfl
        have a75 : ∀ j : Int, 0 ≤ j → j < qq.1 → A4 75 (3 * j) = qq.2.1 j ∧ A4 75 (3 * j + 1) = qq.2.2.1 j ∧ A4 75 (3 * j + 2) = (if qq.2.1 j = 5 then 3 * qq.2.2.2 j else qq.2.2.2 j) := fun j j0 j1 => by
          rw [← hA4, ua_s, cpy_t (by omega) (by omega), cpy_t (by omega) (by omega), cpy_t (by omega) (by omega)]
          have := y4.2 j.toNat (by omega)
          rw [Int.toNat_of_nonneg j0] at this
          exact this
        have s76 : ∀ k : Int, 0 ≤ k → k < 47 → A 76 k = s k := fun k k0 k1 => by rw [← hs, cpy_t k0 k1]
        have a76 : A4 76 = A 76 := fA4 76 rfl
        have a77 : A4 77 = A 77 := fA4 77 rfl
        -- the row is kept
        have z1 : ∃ g, mC g (s :: l) ∧ q_run qm_X11_play (q_call q_MT d) 123 [.ref 59, .int (zI n), .int (zI 0), .int (zI 0)] [] (zM J A4 W) = q_run qm_X11_play (q_call q_MT d) 123 [.ref 59, .int (zI n), .int (zI 0), .int (zI 47)] [] (zM J (ua A4 78 g) W) := by
          have hid : ua A4 78 (A4 78) = A4 := ua_id
          conv => enter [1, g, 2, 1]; rw [← hid]
          have a78 : A4 78 = A 78 := fA4 78 rfl
          refine lp_x (fun j (g : Int → Int) => q_run qm_X11_play (q_call q_MT d) 123 [.ref 59, .int (zI n), .int (zI 0), .int (zI j)] [] (zM J (ua A4 78 g) W)) (fun j g => (∀ y : Int, y < 47 * (l.length : Int) → g y = A 78 y) ∧ ∀ y : Int, 0 ≤ y → y < j → g (47 * (l.length : Int) + y) = s y) (fun r => ∃ g, mC g (s :: l) ∧ r = q_run qm_X11_play (q_call q_MT d) 123 [.ref 59, .int (zI n), .int (zI 0), .int (zI 47)] [] (zM J (ua A4 78 g) W)) 47 ?_ ?_ 0 (A4 78) (by omega) ⟨fun y _ => by rw [a78], fun y y0 y1 => by omega⟩
          · rintro g ⟨hg1, hg2⟩
            exact ⟨g, ⟨fun k k0 k1 => hg2 k k0 k1, hC.cg (fun k k0 k1 => hg1 k (by omega))⟩, rfl⟩
          · rintro j g hj ⟨hg1, hg2⟩
            have sj := s76 j (by omega) (by omega)
            rw [← a76] at sj
            refine .inr ⟨up g (47 * (l.length : Int) + j) (s j), ⟨fun y hy => ?_, fun y y0 y1 => ?_⟩, ?_⟩
            · rw [up_n (by omega)]; exact hg1 y hy
            · by_cases e : y = j
              · subst e; rw [up_s]
              · rw [up_n (by omega)]; exact hg2 y y0 (by omega)
            · rw [k_X11_play_123]
              simp (implicitDefEqProofs := false) (disch := omega) only [↓rI_s, ↓rV_s, ↓rI_e, ↓rV_e, zc_eq, zc_ne, zc_lt, zc_ge, zc_gt, zc_le, zlt_t, zlt_f, zle_t, zle_f, zeq_t, zeq_f, lz, zadd, zsub, zmul, zneg, zb_e0, zb_e1, boo0, boo1, ua_s, ua_n, ua_ua, up_s, u2_s, u2_f, u2_c, u2_u2, Int.natCast_add, Int.zero_add, Int.add_zero, ↓reduceIte, ne_eq, not_true_eq_false, not_false_eq_true, Int.natCast_one, ↓zg_59_44, ↓zg_59_37, w3, ↓zg_59_42, zl_76, sj, zs_78]
        obtain ⟨g, hg, e1⟩ := z1
        have tk := m_take (d := d) (I := u2 J 59 37 ((l.length : Int) + 1)) (A := ua A4 78 g) (W := W) (by omega)
        rw [ua_n (c' := 76) (by decide), ua_n (c' := 77) (by decide), a76, a77, hs] at tk
        generalize hA5 : ua (ua A4 78 g) 77 s = A5 at tk
        generalize hJ2 : u2 (u2 (u2 (u2 J 59 37 ((l.length : Int) + 1)) 59 39 0) 59 40 0) 59 41 0 = J2
        have fJ4 : fi [(59, 37), (59, 39), (59, 40), (59, 41)] J J2 := by
          rw [← hJ2]
          exact (((fi.refl.f rfl).f rfl).f rfl).f rfl
        have fJ5 : fi mpK I J2 := fJ3.tr (fJ4.wd rfl)
        have fA5 : fr mpL A A5 := by
          rw [← hA5]
          exact ((fA4.wd rfl).a rfl).a rfl
        have hmS : mS R F qq.2.1 qq.2.2.1 qq.2.2.2 qq.1 (0, 0, 0, s) J2 A5 := by
          refine ⟨(hR.fi fJ5 rfl).fr fA5 rfl, by rw [← hA5, ua_s], hN, (hL.fi fJ5 rfl).fr (L := [74, 75, 77, 78]) ?_ rfl, fun j j0 j1 => ?_, ?_, ?_, ?_, (show (0:Int) ≤ 0 by decide), (show (0:Int) ≤ 200 by decide)⟩
          · rw [← hA5]
            exact ((fA4.wd rfl).a rfl).a rfl
          · have : A5 75 = A4 75 := by rw [← hA5]; rfl
            rw [this]; exact a75 j j0 j1
          · rw [← hJ2]; rfl
          · rw [← hJ2]; rfl
          · rw [← hJ2]; rfl
        obtain ⟨I6, A6, u1, u2', u3, u4⟩ := m_goesSteps (R := R) (F := F) (pk := qq.2.1) (pa := qq.2.2.1) (pb := qq.2.2.2) (N := qq.1) (W := W) 6 d (by omega) kk 0 qq.1 (0, 0, 0, s) J2 A5 (by omega) r2 (by omega) (by omega) hmS
        rw [show (3 : Int) * 0 = 0 from rfl] at u4
        have st6 : A6 77 = (plSt R F qq s).2.2.2 := u3.2.1
        have ek := m_copies_77_76 (d := d) (I := I6) (A := A6) (W := W) (n := 47) (by omega) (by omega)
        have n47 : ((47 : Nat) : Int) = 47 := rfl
        rw [n47] at ek
        have i41 : I6 59 41 = (plSt R F qq s).2.2.1 := u3.2.2.2.2.2.2.2.1
        have i40 : I6 59 40 = (plSt R F qq s).2.1 := u3.2.2.2.2.2.2.1
        have j36 : J2 59 36 = 3 * (qq.1 : Int) := (fJ4 59 36 rfl).trans g3
        have f38 : fi [(59, 38)] I6 (u2 I6 59 38 (plSt R F qq s).2.2.1) := fi.refl.f rfl
        have f76 : fr [76] A6 (ua A6 76 (cpy 47 (A6 77) (A6 76))) := fr.refl.a rfl
        refine ⟨u2 I6 59 38 (plSt R F qq s).2.2.1, ua A6 76 (cpy 47 (A6 77) (A6 76)), (fJ5.tr (u1.wd rfl)).f rfl, (fA5.tr (u2'.wd rfl)).a rfl, ?_, ?_, ?_, ?_, u2_s, (u3.1.fi f38 rfl).fr f76 rfl, (u3.2.2.2.1.fi f38 rfl).fr f76 rfl, u3.2.2.1, fun k k0 k1 => ?_, ?_, ?_⟩
        · exact (u2_f (by decide)).trans ((u1 59 0 rfl).trans ((fJ4 59 0 rfl).trans z3))
        · exact (u2_f (by decide)).trans ((u1 59 2 rfl).trans ((fJ4 59 2 rfl).trans t3))
        · exact (u2_f (by decide)).trans ((u1 59 8 rfl).trans ((fJ4 59 8 rfl).trans e8))
        · refine (u2_f (by decide)).trans ((u1 59 37 rfl).trans ?_)
          rw [← hJ2]; rfl
        · rw [ua_s, cpy_t k0 k1, st6]
        · have : ua A6 76 (cpy 47 (A6 77) (A6 76)) 78 = g := by
            rw [ua_n (by decide), u2' 78 rfl, ← hA5]; rfl
          rw [this]; exact hg
        · rw [hI2] at y5
          have fin : q_run qm_X11_play (q_call q_MT d) 123 [.ref 59, .int (zI n), .int (zI 0), .int (zI 47)] [] (zM J (ua A4 78 g) W) = some (.inl (some (.int (zI (plSt R F qq s).2.1))), zM (u2 I6 59 38 (plSt R F qq s).2.2.1) (ua A6 76 (cpy 47 (A6 77) (A6 76))) W) := by
            rw [k_X11_play_123]
            simp (implicitDefEqProofs := false) (disch := omega) only [↓rI_s, ↓rV_s, ↓rI_e, ↓rV_e, zc_eq, zc_ne, zc_lt, zc_ge, zc_gt, zc_le, zlt_t, zlt_f, zle_t, zle_f, zeq_t, zeq_f, lz, zadd, zsub, zmul, zneg, zb_e0, zb_e1, boo0, boo1, ua_s, ua_n, ua_ua, up_s, u2_s, u2_f, u2_c, u2_u2, Int.natCast_add, Int.zero_add, Int.add_zero, ↓reduceIte, ne_eq, not_true_eq_false, not_false_eq_true, Int.natCast_one, ↓zg_59_37, w3, ↓zp_59_37, ↓mc_59, ↓cV tk, ↓zp_59_39, ↓zp_59_40, ↓zp_59_41, hJ2, ↓zg_59_36, j36, g3, ↓cV u4, ↓zg_59_43, ↓zg_59_42, ↓cV ek, ↓k_X11_play_207, ↓zg_59_41, i41, ↓zp_59_38, ↓zg_59_40, i40]
          rw [fin] at e1
          simp (implicitDefEqProofs := false) (disch := omega) only [↓rI_s, ↓rV_s, ↓rI_e, ↓rV_e, zc_eq, zc_ne, zc_lt, zc_ge, zc_gt, zc_le, zlt_t, zlt_f, zle_t, zle_f, zeq_t, zeq_f, lz, zadd, zsub, zmul, zneg, zb_e0, zb_e1, boo0, boo1, ua_s, ua_n, ua_ua, up_s, u2_s, u2_f, u2_c, u2_u2, Int.natCast_add, Int.zero_add, Int.add_zero, ↓reduceIte, ne_eq, not_true_eq_false, not_false_eq_true, Int.natCast_one, ↓zp_59_0, ↓zg_59_2, ↓k_X11_play_30, ↓mc_59, ↓cI my, ↓cV x7, ↓zg_59_37, i37, ↓zp_59_36, y5, ↓k_X11_play_89, ↓cI er, ↓zg_59_5, b3, ↓zg_59_34, ↓zg_59_35, ↓zg_59_36, g3, ↓cV ec, e1]
  · rename_i q
    by_cases q1 : n < 0
    · simp (implicitDefEqProofs := false) (disch := omega) only [↓rI_s, ↓rV_s, ↓rI_e, ↓rV_e, zc_eq, zc_ne, zc_lt, zc_ge, zc_gt, zc_le, zlt_t, zlt_f, zle_t, zle_f, zeq_t, zeq_f, lz, zadd, zsub, zmul, zneg, zb_e0, zb_e1, boo0, boo1, ua_s, ua_n, ua_ua, up_s, u2_s, u2_f, u2_c, u2_u2, Int.natCast_add, Int.zero_add, Int.add_zero, ↓reduceIte, ne_eq, not_true_eq_false, not_false_eq_true, Int.natCast_one, ↓zp_59_0, ↓k_X11_play_29, ↓k_X11_play_30, ↓mc_59, s_may0]
    · by_cases q2 : I 59 2 < n
      · simp (implicitDefEqProofs := false) (disch := omega) only [↓rI_s, ↓rV_s, ↓rI_e, ↓rV_e, zc_eq, zc_ne, zc_lt, zc_ge, zc_gt, zc_le, zlt_t, zlt_f, zle_t, zle_f, zeq_t, zeq_f, lz, zadd, zsub, zmul, zneg, zb_e0, zb_e1, boo0, boo1, ua_s, ua_n, ua_ua, up_s, u2_s, u2_f, u2_c, u2_u2, Int.natCast_add, Int.zero_add, Int.add_zero, ↓reduceIte, ne_eq, not_true_eq_false, not_false_eq_true, Int.natCast_one, ↓zp_59_0, ↓zg_59_2, ↓k_X11_play_29, ↓k_X11_play_30, ↓mc_59, s_may0]
      · simp (implicitDefEqProofs := false) (disch := omega) only [↓rI_s, ↓rV_s, ↓rI_e, ↓rV_e, zc_eq, zc_ne, zc_lt, zc_ge, zc_gt, zc_le, zlt_t, zlt_f, zle_t, zle_f, zeq_t, zeq_f, lz, zadd, zsub, zmul, zneg, zb_e0, zb_e1, boo0, boo1, ua_s, ua_n, ua_ua, up_s, u2_s, u2_f, u2_c, u2_u2, Int.natCast_add, Int.zero_add, Int.add_zero, ↓reduceIte, ne_eq, not_true_eq_false, not_false_eq_true, Int.natCast_one, ↓zp_59_0, ↓zg_59_2, ↓k_X11_play_29, ↓k_X11_play_30, ↓mc_59, s_may0]
end PQ
