--DEPS 93.book
section BM
variable {d : Nat} {I : Nat → Nat → Int} {A : Nat → Int → Int} {W : qWt} {T : Int → Int} {n a : Int}
theorem C_book (hd : 6 ≤ d) (h : tpC T I A) (hn : wI n) : if 0 ≤ n ∧ n ≤ 100 ∧ n ≤ I 3 1 then (match bkS T n 101 (fun _ => -1) 0 0 with
    | .inl (k, p) => ∃ I' A', fi oK I I' ∧ fr [38] A A' ∧ I' 3 1 = 0 ∧ I' 3 7 = p ∧ q_call q_MT d 117 [.ref 2, .int (zI n)] (zM I A W) = some (.inl (some (.int (zI (k - 10)))), zM I' A' W)
    | .inr (_, g) => ∃ I' A', fi ((36, 6) :: oK) I I' ∧ fr [37, 38] A A' ∧ I' 3 1 = 0 ∧ I' 3 7 = -1 ∧ I' 36 6 = g.2 ∧ (∀ p : Int, 1 ≤ p → p ≤ 9 → A' 37 p = g.1 p) ∧ tB9 g.1 ∧ q_call q_MT d 117 [.ref 2, .int (zI n)] (zM I A W) = some (.inl (some (.int (zI g.2))), zM I' A' W)) else q_call q_MT d 117 [.ref 2, .int (zI n)] (zM I A W) = qIl I A W := by
  obtain ⟨d, rfl⟩ : ∃ e, d = e + 1 := ⟨d - 1, by omega⟩
  obtain ⟨d, rfl⟩ : ∃ e, d = e + 1 := ⟨d - 1, by omega⟩
  rw [cl_X10_book, k_X10_book_0]
  split
  · rename_i q
    obtain ⟨I1, x1, x2, x3, x4, x5⟩ := c_openText (W := W) (d := d + 1) (m := 100) (by omega) h q (by omega)
    have z1 : ∃ g, (∀ y : Int, 0 ≤ y → y < 10 → g y = -1) ∧ q_call q_MT (d + 1) 47 [.ref 36, .ref 3] (zM I1 A W) = q_run qm_X2_readFrom (q_call q_MT d) 25 [.ref 36, .ref 3, .int (zI 0), .int (zI ((0 : Nat) : Int))] [] (zM I1 (ua A 38 g) W) := by
      rw [cl_X2_readFrom, k_X2_readFrom_0]
      simp only [lz]
      have hid : ua A 38 (A 38) = A := ua_id
      conv => enter [1, g, 2, 1]; rw [← hid]
      refine lp_x (fun j (g : Int → Int) => q_run qm_X2_readFrom (q_call q_MT d) 4 [.ref 36, .ref 3, .int (zI 0), .int (zI j)] [] (zM I1 (ua A 38 g) W)) (fun j g => ∀ y : Int, 0 ≤ y → y < j → g y = -1) (fun r => ∃ g, (∀ y : Int, 0 ≤ y → y < 10 → g y = -1) ∧ r = q_run qm_X2_readFrom (q_call q_MT d) 25 [.ref 36, .ref 3, .int (zI 0), .int (zI ((0 : Nat) : Int))] [] (zM I1 (ua A 38 g) W)) 10 ?_ ?_ 0 (A 38) (by omega) (fun y y0 y1 => by omega)
      · intro g hg
        refine ⟨g, hg, ?_⟩
        rw [k_X2_readFrom_4]
        simp (implicitDefEqProofs := false) (disch := omega) only [↓rI_s, ↓rV_s, ↓rI_e, ↓rV_e, zc_eq, zc_ne, zc_lt, zc_ge, zc_gt, zc_le, zlt_t, zlt_f, zle_t, zle_f, zeq_t, zeq_f, lz, zadd, zsub, zmul, zneg, zb_e0, zb_e1, boo0, boo1, ua_s, ua_n, ua_ua, up_s, u2_s, u2_f, u2_c, u2_u2, Int.natCast_add, Int.zero_add, Int.add_zero, ↓reduceIte, ne_eq, not_true_eq_false, not_false_eq_true, Int.natCast_one]
        rfl
      · intro j g hj hg
        refine .inr ⟨up g j (-1), fun y y0 y1 => ?_, ?_⟩
        · by_cases e : y = j
          · subst e; rw [up_s]
          · rw [up_n e]; exact hg y y0 (by omega)
        · rw [k_X2_readFrom_4]
          simp (implicitDefEqProofs := false) (disch := omega) only [↓rI_s, ↓rV_s, ↓rI_e, ↓rV_e, zc_eq, zc_ne, zc_lt, zc_ge, zc_gt, zc_le, zlt_t, zlt_f, zle_t, zle_f, zeq_t, zeq_f, lz, zadd, zsub, zmul, zneg, zb_e0, zb_e1, boo0, boo1, ua_s, ua_n, ua_ua, up_s, u2_s, u2_f, u2_c, u2_u2, Int.natCast_add, Int.zero_add, Int.add_zero, ↓reduceIte, ne_eq, not_true_eq_false, not_false_eq_true, Int.natCast_one, ↓zg_36_3, zs_38]
    obtain ⟨g0, hg0, e0⟩ := z1
    have f0 : fr [38] A (ua A 38 g0) := fr.refl.a rfl
    have y := c_bkLoop (W := W) (d := d + 1) 101 (fun _ => -1) 0 0 0 I1 (ua A 38 g0) (by omega) (by omega) (by omega) (by omega) (x2.fr f0 rfl) (fun p p0 p1 => by rw [ua_s]; exact hg0 p (by omega) (by omega)) (fun p _ _ => by show -1 ≤ (-1 : Int) ∧ (-1 : Int) ≤ 60; omega)
    rw [show d + 1 - 1 = d from rfl] at y
    rcases hs : bkS T n 101 (fun _ => -1) 0 0 with ⟨k, p⟩ | ⟨e3, v⟩
    · rw [hs] at y
      obtain ⟨I2, A2, y1, y2, y3, y4, y5⟩ := y
      have ea := c_answer (d := d + 1) (I := I2) (A := A2) (W := W) (by omega)
      refine ⟨I2, A2, x1.tr (y1.wd rfl), f0.tr y2, (y1 3 1 rfl).trans x3, y4, ?_⟩
      simp (implicitDefEqProofs := false) (disch := omega) only [↓rI_s, ↓rV_s, ↓rI_e, ↓rV_e, zc_eq, zc_ne, zc_lt, zc_ge, zc_gt, zc_le, zlt_t, zlt_f, zle_t, zle_f, zeq_t, zeq_f, lz, zadd, zsub, zmul, zneg, zb_e0, zb_e1, boo0, boo1, ua_s, ua_n, ua_ua, up_s, u2_s, u2_f, u2_c, u2_u2, Int.natCast_add, Int.zero_add, Int.add_zero, ↓reduceIte, ne_eq, not_true_eq_false, not_false_eq_true, Int.natCast_one, ↓mc_2, x5, ↓zg_2_4, ↓zg_2_0, ↓mc_36, e0, y5, ↓mc_3, ea, y3, ↓k_X10_book_38]
    · rw [hs] at y
      obtain ⟨I2, A2, l3, y1, y2, y3, y4, y5, y6⟩ := y
      refine ⟨u2 I2 36 6 v.2, ua A2 37 (uc (A2 38) (A2 37) 0 0 10), ((x1.wd rfl).tr (y1.wd rfl)).f rfl, ((f0.wd rfl).tr (y2.wd rfl)).a rfl, (u2_c (by decide)).trans ((y1 3 1 rfl).trans x3), (u2_c (by decide)).trans (y3.trans x4), u2_s, fun p p0 p1 => ?_, y5, ?_⟩
      · rw [ua_s, uc_in (by omega) (by omega), show 0 + (p - 0) = p by omega]
        exact y4 p p0 p1
      · simp (implicitDefEqProofs := false) (disch := omega) only [↓rI_s, ↓rV_s, ↓rI_e, ↓rV_e, zc_eq, zc_ne, zc_lt, zc_ge, zc_gt, zc_le, zlt_t, zlt_f, zle_t, zle_f, zeq_t, zeq_f, lz, zadd, zsub, zmul, zneg, zb_e0, zb_e1, boo0, boo1, ua_s, ua_n, ua_ua, up_s, u2_s, u2_f, u2_c, u2_u2, Int.natCast_add, Int.zero_add, Int.add_zero, ↓reduceIte, ne_eq, not_true_eq_false, not_false_eq_true, Int.natCast_one, ↓mc_2, x5, ↓zg_2_4, ↓zg_2_0, ↓mc_36, e0, y6, ↓k_X2_readFrom_58, ↓zg_36_3, ↓zg_36_2, zc_38_37, ↓zp_36_6, ↓zg_36_6, ↓k_X10_book_38]
  · rename_i q
    have e := c_openText_f (W := W) (d := d + 1) (m := 100) (by omega) h q (by omega) hn
    simp (implicitDefEqProofs := false) (disch := omega) only [↓rI_s, ↓rV_s, ↓rI_e, ↓rV_e, zc_eq, zc_ne, zc_lt, zc_ge, zc_gt, zc_le, zlt_t, zlt_f, zle_t, zle_f, zeq_t, zeq_f, lz, zadd, zsub, zmul, zneg, zb_e0, zb_e1, boo0, boo1, ua_s, ua_n, ua_ua, up_s, u2_s, u2_f, u2_c, u2_u2, Int.natCast_add, Int.zero_add, Int.add_zero, ↓reduceIte, ne_eq, not_true_eq_false, not_false_eq_true, Int.natCast_one, ↓mc_2, e, t0_1]
/-- the reference's loop over the lines -/
theorem m_bkLoop : ∀ (m : Nat) (f : Int → Int) (c a : Int) (I : Nat → Nat → Int) (A : Nat → Int → Int) (l1 l3 l4 l5 : Value), 4 ≤ d → n ≤ 100 → (n - a).toNat < m → 0 ≤ c → 2 * c ≤ a → mTx T n a I A → I 59 5 = -1 → (∀ p : Int, 1 ≤ p → p ≤ 9 → A 80 (p - 1) = f p) → tB9 f → match bkS T n m f c a with
    | .inl (k, p) => ∃ I' A' l2 l3' l4' l5', fi yK I I' ∧ fr [80] A A' ∧ I' 59 6 = k ∧ I' 59 5 = p ∧ 0 ≤ p ∧ p ≤ 600 ∧ q_run qm_X11_book (q_call q_MT d) 67 [.ref 59, l1, .int (zI c), l3, l4, l5] [] (zM I A W) = q_run qm_X11_book (q_call q_MT d) 163 [.ref 59, l1, .int l2, l3', l4', l5'] [] (zM I' A' W)
    | .inr (_, g) => ∃ I' A' l3' l4' l5', fi yK I I' ∧ fr [80] A A' ∧ I' 59 5 = -1 ∧ (∀ p : Int, 1 ≤ p → p ≤ 9 → A' 80 (p - 1) = g.1 p) ∧ tB9 g.1 ∧ 0 ≤ g.2 ∧ g.2 ≤ 100 ∧ (g.2 = 0 → g.1 = f) ∧ q_run qm_X11_book (q_call q_MT d) 67 [.ref 59, l1, .int (zI c), l3, l4, l5] [] (zM I A W) = q_run qm_X11_book (q_call q_MT d) 163 [.ref 59, l1, .int (zI g.2), l3', l4', l5'] [] (zM I' A' W) := by
  intro m
  induction m with
  | zero => intro f c a I A _ _ _ _ _ _ hm; omega
  | succ m ih =>
    intro f c a I A l1 l3 l4 l5 hd hn hm hc0 hi h hb5 hf hb
    have han := h.2.2.2.2.2.1
    have ha0 := h.2.2.2.2.1
    have sb := sk_b (T := T) han
    have f1 := m_fine (I := I) (A := A) (W := W) (d := d) (by omega) (by omega)
    rw [zb_t hb5] at f1
    have im := m_isMore (W := W) (d := d) (by omega) h
    have h' : mTx T n (sk T n a) (u2 I 59 4 (sk T n a)) A := h.u (u2_f (by decide)) u2_s (by omega) sb.2
    have fI : fi yK I (u2 I 59 4 (sk T n a)) := fi.refl.f rfl
    have b5 : u2 I 59 4 (sk T n a) 59 5 = -1 := by rw [u2_f (by decide)]; exact hb5
    unfold bkS
    by_cases q : sk T n a < n
    · rw [if_pos q]
      rw [zb_t q] at im
      have e1 := m_readNumber (lo := 1) (hi := 9) (W := W) (d := d) (by omega) h' b5 (by omega) (by omega)
      have eq : numS T n 1 9 (sk T n a) = numS T n 1 9 a := by unfold numS; rw [sk_sk han]
      rw [eq] at e1
      unfold bkL
      rcases hq : numS T n 1 9 a with ⟨k, p⟩ | ⟨e, p⟩
      · rw [hq] at e1
        have r1 := numS_l han hq
        obtain ⟨I1, a1, x1, x2, x3, x4, x5⟩ := e1
        have w5 : wI (I1 59 5) := by rw [x4]; omega
        have n5 : I1 59 5 ≠ -1 := by rw [x4]; omega
        have f2 := m_fine (I := I1) (A := A) (W := W) (d := d) (by omega) w5
        rw [zb_f n5] at f2
        have nb := m_readNumber_b (I := I1) (A := A) (W := W) (d := d) (lo := 0) (hi := 60) (by omega) n5 w5
        have sb2 := m_sign_b (I := I1) (A := A) (W := W) (d := d) (c := 59) (by omega) n5 w5
        refine ⟨I1, A, zI c, .int (zI (sk T n a)), .int (zI 0), .int (zI 0), fI.tr x1, fr.refl, x3, x4, by omega, by omega, ?_⟩
        rw [k_X11_book_67]
        simp (implicitDefEqProofs := false) (disch := omega) only [↓rI_s, ↓rV_s, ↓rI_e, ↓rV_e, zc_eq, zc_ne, zc_lt, zc_ge, zc_gt, zc_le, zlt_t, zlt_f, zle_t, zle_f, zeq_t, zeq_f, lz, zadd, zsub, zmul, zneg, zb_e0, zb_e1, boo0, boo1, ua_s, ua_n, ua_ua, up_s, u2_s, u2_f, u2_c, u2_u2, Int.natCast_add, Int.zero_add, Int.add_zero, ↓reduceIte, ne_eq, not_true_eq_false, not_false_eq_true, Int.natCast_one, ↓mc_59, f1, im, ↓zg_59_4, x5, f2, ↓k_X11_book_121, nb, sb2]
      · rw [hq] at e1
        have r1 := numS_r han hq
        obtain ⟨I1, x1, x2, x3, x4⟩ := e1
        have f2 := m_fine (I := I1) (A := A) (W := W) (d := d) (by omega) (by omega)
        rw [zb_t x3] at f2
        have hp := hf p (by omega) (by omega)
        have hbp := hb p (by omega) (by omega)
        by_cases c2 : f p = -1
        · have e2 := m_readNumber (lo := 0) (hi := 60) (W := W) (d := d) (by omega) x2 x3 (by omega) (by omega)
          show match bd (if f p = -1 then bd (numS T n 0 60 e) fun y => bd (sgnS T n 59 y.1) fun z => .inr (z, up f p y.2) else .inl (2, sk T n a)) (fun x => bkS T n m x.2 (c + 1) x.1) with
            | .inl (k, p) => _
            | .inr (_, g) => _
          rw [if_pos c2]
          rw [c2] at hp
          rcases hq2 : numS T n 0 60 e with ⟨k, p2⟩ | ⟨e2', v⟩
          · rw [hq2] at e2
            have r2 := numS_l (by omega) hq2
            obtain ⟨I2, a2, y1, y2, y3, y4, y5⟩ := e2
            have w5 : wI (I2 59 5) := by rw [y4]; omega
            have n5 : I2 59 5 ≠ -1 := by rw [y4]; omega
            have f3 := m_fine (I := I2) (A := A) (W := W) (d := d) (by omega) w5
            rw [zb_f n5] at f3
            have sb2 := m_sign_b (I := I2) (A := A) (W := W) (d := d) (c := 59) (by omega) n5 w5
            refine ⟨I2, A, zI c, .int (zI (sk T n a)), .int (zI p), .int (zI 0), (fI.tr x1).tr y1, fr.refl, y3, y4, by omega, by omega, ?_⟩
            rw [k_X11_book_67]
            simp (implicitDefEqProofs := false) (disch := omega) only [↓rI_s, ↓rV_s, ↓rI_e, ↓rV_e, zc_eq, zc_ne, zc_lt, zc_ge, zc_gt, zc_le, zlt_t, zlt_f, zle_t, zle_f, zeq_t, zeq_f, lz, zadd, zsub, zmul, zneg, zb_e0, zb_e1, boo0, boo1, ua_s, ua_n, ua_ua, up_s, u2_s, u2_f, u2_c, u2_u2, Int.natCast_add, Int.zero_add, Int.add_zero, ↓reduceIte, ne_eq, not_true_eq_false, not_false_eq_true, Int.natCast_one, ↓mc_59, f1, im, ↓zg_59_4, x4, f2, ↓zg_59_46, zl_80, hp, ↓k_X11_book_121, y5, sb2, f3]
          · rw [hq2] at e2
            have r2 := numS_r (by omega) hq2
            obtain ⟨I2, y1, y2, y3, y4⟩ := e2
            have e3 := m_sign (c := 59) (W := W) (d := d) (by omega) y2 (by omega) y3
            show match bd (bd (sgnS T n 59 e2') fun z => .inr (z, up f p v)) (fun x => bkS T n m x.2 (c + 1) x.1) with
              | .inl (k, p) => _
              | .inr (_, g) => _
            rcases hq3 : sgnS T n 59 e2' with ⟨k, p3⟩ | e4
            · rw [hq3] at e3
              have r3 := sgnS_l (by omega) hq3
              obtain ⟨I3, z1, z2, z3, z4, z5⟩ := e3
              have w5 : wI (I3 59 5) := by rw [z4]; omega
              have n5 : I3 59 5 ≠ -1 := by rw [z4]; omega
              have f3 := m_fine (I := I3) (A := A) (W := W) (d := d) (by omega) w5
              rw [zb_f n5] at f3
              refine ⟨I3, A, zI c, .int (zI (sk T n a)), .int (zI p), .int (zI v), ((fI.tr x1).tr y1).tr z1, fr.refl, z3, z4, by omega, by omega, ?_⟩
              rw [k_X11_book_67]
              simp (implicitDefEqProofs := false) (disch := omega) only [↓rI_s, ↓rV_s, ↓rI_e, ↓rV_e, zc_eq, zc_ne, zc_lt, zc_ge, zc_gt, zc_le, zlt_t, zlt_f, zle_t, zle_f, zeq_t, zeq_f, lz, zadd, zsub, zmul, zneg, zb_e0, zb_e1, boo0, boo1, ua_s, ua_n, ua_ua, up_s, u2_s, u2_f, u2_c, u2_u2, Int.natCast_add, Int.zero_add, Int.add_zero, ↓reduceIte, ne_eq, not_true_eq_false, not_false_eq_true, Int.natCast_one, ↓mc_59, f1, im, ↓zg_59_4, x4, f2, ↓zg_59_46, zl_80, hp, ↓k_X11_book_121, y4, z5, f3]
            · rw [hq3] at e3
              have r3 := sgnS_r (by omega) hq3
              obtain ⟨I3, z1, z2, z3, z4⟩ := e3
              have f3 := m_fine (I := I3) (A := A) (W := W) (d := d) (by omega) (by omega)
              rw [zb_t z3] at f3
              have f80 : fr [80] A (ua A 80 (up (A 80) (p - 1) v)) := fr.refl.a rfl
              have y := ih (up f p v) (c + 1) e4 I3 (ua A 80 (up (A 80) (p - 1) v)) l1 (.int (zI (sk T n a))) (.int (zI p)) (.int (zI v)) hd hn (by omega) (by omega) (by omega) (z2.fr f80 rfl) z3 (fun q q0 q1 => by
                rw [ua_s]
                by_cases c : q = p
                · subst c; rw [up_s, up_s]
                · rw [up_n c, up_n (by omega)]; exact hf q q0 q1) (fun q q0 q1 => by
                by_cases c : q = p
                · subst c; rw [up_s]; omega
                · rw [up_n c]; exact hb q q0 q1)
              have er : q_run qm_X11_book (q_call q_MT d) 67 [.ref 59, l1, .int (zI c), l3, l4, l5] [] (zM I A W) = q_run qm_X11_book (q_call q_MT d) 67 [.ref 59, l1, .int (zI (c + 1)), .int (zI (sk T n a)), .int (zI p), .int (zI v)] [] (zM I3 (ua A 80 (up (A 80) (p - 1) v)) W) := by
                rw [k_X11_book_67]
                simp (implicitDefEqProofs := false) (disch := omega) only [↓rI_s, ↓rV_s, ↓rI_e, ↓rV_e, zc_eq, zc_ne, zc_lt, zc_ge, zc_gt, zc_le, zlt_t, zlt_f, zle_t, zle_f, zeq_t, zeq_f, lz, zadd, zsub, zmul, zneg, zb_e0, zb_e1, boo0, boo1, ua_s, ua_n, ua_ua, up_s, u2_s, u2_f, u2_c, u2_u2, Int.natCast_add, Int.zero_add, Int.add_zero, ↓reduceIte, ne_eq, not_true_eq_false, not_false_eq_true, Int.natCast_one, ↓mc_59, f1, im, ↓zg_59_4, x4, f2, ↓zg_59_46, zl_80, hp, ↓k_X11_book_121, y4, z4, f3, zs_80]
              rw [er]
              show match bkS T n m (up f p v) (c + 1) e4 with
                | .inl (k, p) => _
                | .inr (_, g) => _
              have fJ := ((fI.tr x1).tr y1).tr z1
              rcases hs : bkS T n m (up f p v) (c + 1) e4 with ⟨k, p⟩ | ⟨e3, w⟩
              · rw [hs] at y
                obtain ⟨I4, A4, m2, m3, m4, m5, w1, w2, w3, w4, w5, w6, w7⟩ := y
                exact ⟨I4, A4, m2, m3, m4, m5, fJ.tr w1, f80.tr w2, w3, w4, w5, w6, w7⟩
              · rw [hs] at y
                obtain ⟨I4, A4, m3, m4, m5, w1, w2, w3, w4, w5, w6, w7, w8, w9⟩ := y
                refine ⟨I4, A4, m3, m4, m5, fJ.tr w1, f80.tr w2, w3, w4, w5, w6, w7, fun q => ?_, w9⟩
                exfalso
                have : ∀ (m : Nat) (f : Int → Int) (c a e : Int) (w : (Int → Int) × Int), bkS T n m f c a = .inr (e, w) → c ≤ w.2 := by
                  intro m
                  induction m with
                  | zero => intro f c a e w h; cases h; exact Int.le_refl _
                  | succ m ih =>
                    intro f c a e w h
                    unfold bkS at h
                    split at h
                    · rcases hq : bkL T n f a with ⟨k, p⟩ | ⟨e2, g⟩
                      · rw [hq] at h; cases h
                      · rw [hq] at h
                        have := ih g (c + 1) e2 e w h
                        omega
                    · cases h; exact Int.le_refl _
                have := this _ _ _ _ _ _ hs
                omega
        · show match bd (if f p = -1 then bd (numS T n 0 60 e) fun y => bd (sgnS T n 59 y.1) fun z => .inr (z, up f p y.2) else .inl (2, sk T n a)) (fun x => bkS T n m x.2 (c + 1) x.1) with
            | .inl (k, p) => _
            | .inr (_, g) => _
          rw [if_neg c2]
          have ew := m_wrong (I := I1) (A := A) (W := W) (d := d) (k := 2) (p := sk T n a) (by omega) x3
          have b5 : u2 (u2 I1 59 5 (sk T n a)) 59 6 2 59 5 = sk T n a := by rw [u2_f (by decide), u2_s]
          have w5 : wI (u2 (u2 I1 59 5 (sk T n a)) 59 6 2 59 5) := by rw [b5]; omega
          have n5 : u2 (u2 I1 59 5 (sk T n a)) 59 6 2 59 5 ≠ -1 := by rw [b5]; omega
          have f3 := m_fine (I := u2 (u2 I1 59 5 (sk T n a)) 59 6 2) (A := A) (W := W) (d := d) (by omega) w5
          rw [zb_f n5] at f3
          have nb := m_readNumber_b (I := u2 (u2 I1 59 5 (sk T n a)) 59 6 2) (A := A) (W := W) (d := d) (lo := 0) (hi := 60) (by omega) n5 w5
          have sb2 := m_sign_b (I := u2 (u2 I1 59 5 (sk T n a)) 59 6 2) (A := A) (W := W) (d := d) (c := 59) (by omega) n5 w5
          refine ⟨u2 (u2 I1 59 5 (sk T n a)) 59 6 2, A, zI c, .int (zI (sk T n a)), .int (zI p), .int (zI 0), ((fI.tr x1).f rfl).f rfl, fr.refl, u2_s, b5, by omega, by omega, ?_⟩
          rw [k_X11_book_67]
          simp (implicitDefEqProofs := false) (disch := omega) only [↓rI_s, ↓rV_s, ↓rI_e, ↓rV_e, zc_eq, zc_ne, zc_lt, zc_ge, zc_gt, zc_le, zlt_t, zlt_f, zle_t, zle_f, zeq_t, zeq_f, lz, zadd, zsub, zmul, zneg, zb_e0, zb_e1, boo0, boo1, ua_s, ua_n, ua_ua, up_s, u2_s, u2_f, u2_c, u2_u2, Int.natCast_add, Int.zero_add, Int.add_zero, ↓reduceIte, ne_eq, not_true_eq_false, not_false_eq_true, Int.natCast_one, ↓mc_59, f1, im, ↓zg_59_4, x4, f2, ↓zg_59_46, zl_80, hp, ew, ↓k_X11_book_121, nb, sb2, f3]
    · rw [if_neg q]
      rw [zb_f q] at im
      refine ⟨u2 I 59 4 (sk T n a), A, l3, l4, l5, fI, fr.refl, b5, hf, hb, hc0, by omega, fun _ => rfl, ?_⟩
      rw [k_X11_book_67]
      simp (implicitDefEqProofs := false) (disch := omega) only [↓rI_s, ↓rV_s, ↓rI_e, ↓rV_e, zc_eq, zc_ne, zc_lt, zc_ge, zc_gt, zc_le, zlt_t, zlt_f, zle_t, zle_f, zeq_t, zeq_f, lz, zadd, zsub, zmul, zneg, zb_e0, zb_e1, boo0, boo1, ua_s, ua_n, ua_ua, up_s, u2_s, u2_f, u2_c, u2_u2, Int.natCast_add, Int.zero_add, Int.add_zero, ↓reduceIte, ne_eq, not_true_eq_false, not_false_eq_true, Int.natCast_one, ↓mc_59, f1, im]
abbrev nK : List (Nat × Nat) := [(59, 0), (59, 2), (59, 3), (59, 4), (59, 5), (59, 6), (59, 7), (59, 8)]
theorem M_book (hd : 6 ≤ d) (h : tpM T I A) (hn : wI n) : if 0 ≤ n ∧ n ≤ 100 ∧ n ≤ I 59 2 then (match bkS T n 101 (fun _ => -1) 0 0 with
    | .inl (k, p) => ∃ I' A', fi nK I I' ∧ fr [80] A A' ∧ I' 59 0 = 0 ∧ I' 59 2 = 0 ∧ I' 59 8 = p ∧ q_call q_MT d 223 [.ref 59, .int (zI n)] (zM I A W) = some (.inl (some (.int (zI (k - 10)))), zM I' A' W)
    | .inr (_, g) => ∃ I' A', fi ((59, 48) :: nK) I I' ∧ fr [80, 81] A A' ∧ I' 59 0 = 0 ∧ I' 59 2 = 0 ∧ I' 59 8 = -1 ∧ I' 59 48 = g.2 ∧ mT g.1 I' A' ∧ q_call q_MT d 223 [.ref 59, .int (zI n)] (zM I A W) = some (.inl (some (.int (zI g.2))), zM I' A' W)) else q_call q_MT d 223 [.ref 59, .int (zI n)] (zM I A W) = some (.inl (some (.int (zI 0))), zM (u2 I 59 0 1) (mRf A 1) W) := by
  obtain ⟨d, rfl⟩ : ∃ e, d = e + 1 := ⟨d - 1, by omega⟩
  rw [cl_X11_book, k_X11_book_0]
  have hs := h.2.2
  split
  · rename_i q
    have h' : tpM T (u2 I 59 0 0) A := h
    obtain ⟨I1, x1, x2, x3, x4, x5, x6, x7⟩ := m_begins (W := W) (d := d) (n := n) (by omega) h' ⟨q.1, q.2.2⟩
    have f0 : fi nK I I1 := (fi.refl.f (c := 59) (f := 0) (v := 0) rfl).tr (x1.wd rfl)
    have z0 : I1 59 0 = 0 := (x1 59 0 rfl).trans u2_s
    have z1 : ∃ g, (∀ y : Int, 0 ≤ y → y < 9 → g y = -1) ∧ q_run qm_X11_book (q_call q_MT d) 46 [.ref 59, .int (zI n), .int (zI 0), q_junk, q_junk, q_junk] [] (zM I1 A W) = q_run qm_X11_book (q_call q_MT d) 67 [.ref 59, .int (zI n), .int (zI 0), q_junk, q_junk, q_junk] [] (zM I1 (ua A 80 g) W) := by
      have hid : ua A 80 (A 80) = A := ua_id
      conv => enter [1, g, 2, 1]; rw [← hid]
      refine lp_x (fun j (g : Int → Int) => q_run qm_X11_book (q_call q_MT d) 46 [.ref 59, .int (zI n), .int (zI j), q_junk, q_junk, q_junk] [] (zM I1 (ua A 80 g) W)) (fun j g => ∀ y : Int, 0 ≤ y → y < j → g y = -1) (fun r => ∃ g, (∀ y : Int, 0 ≤ y → y < 9 → g y = -1) ∧ r = q_run qm_X11_book (q_call q_MT d) 67 [.ref 59, .int (zI n), .int (zI 0), q_junk, q_junk, q_junk] [] (zM I1 (ua A 80 g) W)) 9 ?_ ?_ 0 (A 80) (by omega) (fun y y0 y1 => by omega)
      · intro g hg
        refine ⟨g, hg, ?_⟩
        rw [k_X11_book_46]
        simp (implicitDefEqProofs := false) (disch := omega) only [↓rI_s, ↓rV_s, ↓rI_e, ↓rV_e, zc_eq, zc_ne, zc_lt, zc_ge, zc_gt, zc_le, zlt_t, zlt_f, zle_t, zle_f, zeq_t, zeq_f, lz, zadd, zsub, zmul, zneg, zb_e0, zb_e1, boo0, boo1, ua_s, ua_n, ua_ua, up_s, u2_s, u2_f, u2_c, u2_u2, Int.natCast_add, Int.zero_add, Int.add_zero, ↓reduceIte, ne_eq, not_true_eq_false, not_false_eq_true, Int.natCast_one]
      · intro j g hj hg
        refine .inr ⟨up g j (-1), fun y y0 y1 => ?_, ?_⟩
        · by_cases e : y = j
          · subst e; rw [up_s]
          · rw [up_n e]; exact hg y y0 (by omega)
        · rw [k_X11_book_46]
          simp (implicitDefEqProofs := false) (disch := omega) only [↓rI_s, ↓rV_s, ↓rI_e, ↓rV_e, zc_eq, zc_ne, zc_lt, zc_ge, zc_gt, zc_le, zlt_t, zlt_f, zle_t, zle_f, zeq_t, zeq_f, lz, zadd, zsub, zmul, zneg, zb_e0, zb_e1, boo0, boo1, ua_s, ua_n, ua_ua, up_s, u2_s, u2_f, u2_c, u2_u2, Int.natCast_add, Int.zero_add, Int.add_zero, ↓reduceIte, ne_eq, not_true_eq_false, not_false_eq_true, Int.natCast_one, ↓zg_59_46, zs_80]
    obtain ⟨g0, hg0, e0⟩ := z1
    have fa : fr [80] A (ua A 80 g0) := fr.refl.a rfl
    have y := m_bkLoop (W := W) (d := d) 101 (fun _ => -1) 0 0 I1 (ua A 80 g0) (.int (zI n)) q_junk q_junk q_junk (by omega) (by omega) (by omega) (by omega) (by omega) (x2.fr fa rfl) x3 (fun p p0 p1 => by rw [ua_s]; exact hg0 (p - 1) (by omega) (by omega)) (fun p _ _ => by show -1 ≤ (-1 : Int) ∧ (-1 : Int) ≤ 60; omega)
    rcases hs : bkS T n 101 (fun _ => -1) 0 0 with ⟨k, p⟩ | ⟨e3, v⟩
    · rw [hs] at y
      obtain ⟨I2, A2, m2, m3, m4, m5, y1, y2, y3, y4, y5, y6, y7⟩ := y
      have y1' : fi nK I1 I2 := y1.wd rfl
      have er := fun g => m_result_b (d := d) (I := I2) (A := A2) (W := W) (g := g) (by omega) (by omega)
      obtain ⟨g2, rfl⟩ : ∃ g2, m2 = zI g2 := ⟨m2.toInt, (zI_of m2).symm⟩
      refine ⟨u2 I2 59 8 p, A2, (f0.tr y1').f rfl, fa.tr y2, (u2_f (by decide)).trans ((y1 59 0 rfl).trans z0), (u2_f (by decide)).trans ((y1 59 2 rfl).trans x4), u2_s, ?_⟩
      simp (implicitDefEqProofs := false) (disch := omega) only [↓rI_s, ↓rV_s, ↓rI_e, ↓rV_e, zc_eq, zc_ne, zc_lt, zc_ge, zc_gt, zc_le, zlt_t, zlt_f, zle_t, zle_f, zeq_t, zeq_f, lz, zadd, zsub, zmul, zneg, zb_e0, zb_e1, boo0, boo1, ua_s, ua_n, ua_ua, up_s, u2_s, u2_f, u2_c, u2_u2, Int.natCast_add, Int.zero_add, Int.add_zero, ↓reduceIte, ne_eq, not_true_eq_false, not_false_eq_true, Int.natCast_one, ↓zp_59_0, ↓zg_59_2, ↓k_X11_book_29, ↓mc_59, s_may1, x7, e0, y7, ↓k_X11_book_163, er, y3, y4, ↓zg_59_5]
    · rw [hs] at y
      obtain ⟨I2, A2, m3, m4, m5, y1, y2, y3, y4, y5, y6, y7, y8, y9⟩ := y
      have y1' : fi nK I1 I2 := y1.wd rfl
      have er := m_result (d := d) (I := I2) (A := A2) (W := W) (g := v.2) (by omega) y3
      have ec := m_copies_80_81 (d := d) (I := u2 (u2 I2 59 8 (-1)) 59 48 v.2) (A := A2) (W := W) (n := 9) (by omega) (by omega)
      refine ⟨u2 (u2 I2 59 8 (-1)) 59 48 v.2, ua A2 81 (cpy 9 (A2 80) (A2 81)), (((f0.tr y1').wd rfl).f rfl).f rfl, ((fa.tr y2).wd rfl).a rfl, ?_, ?_, ?_, u2_s, ⟨by rw [u2_s]; omega, fun p p0 p1 => ?_⟩, ?_⟩
      · rw [u2_f (by decide), u2_f (by decide)]; exact (y1 59 0 rfl).trans z0
      · rw [u2_f (by decide), u2_f (by decide)]; exact (y1 59 2 rfl).trans x4
      · rw [u2_f (by decide), u2_s]
      · rw [u2_s]
        by_cases c : 0 < v.2
        · rw [if_pos c, ua_s, cpy_t (by omega) (by omega)]; exact y4 p p0 p1
        · rw [if_neg c, y8 (by omega)]
      · simp (implicitDefEqProofs := false) (disch := omega) only [↓rI_s, ↓rV_s, ↓rI_e, ↓rV_e, zc_eq, zc_ne, zc_lt, zc_ge, zc_gt, zc_le, zlt_t, zlt_f, zle_t, zle_f, zeq_t, zeq_f, lz, zadd, zsub, zmul, zneg, zb_e0, zb_e1, boo0, boo1, ua_s, ua_n, ua_ua, up_s, u2_s, u2_f, u2_c, u2_u2, Int.natCast_add, Int.zero_add, Int.add_zero, ↓reduceIte, ne_eq, not_true_eq_false, not_false_eq_true, Int.natCast_one, ↓zp_59_0, ↓zg_59_2, ↓k_X11_book_29, ↓mc_59, s_may1, x7, e0, y9, ↓k_X11_book_163, er, y3, ↓zg_59_5, ↓zp_59_48, ↓zg_59_46, ↓zg_59_47]
        have e9 : ((9 : Nat) : Int) = 9 := rfl
        rw [e9] at ec
        rw [ec]
        rfl
  · rename_i q
    by_cases q1 : n < 0
    · simp (implicitDefEqProofs := false) (disch := omega) only [↓rI_s, ↓rV_s, ↓rI_e, ↓rV_e, zc_eq, zc_ne, zc_lt, zc_ge, zc_gt, zc_le, zlt_t, zlt_f, zle_t, zle_f, zeq_t, zeq_f, lz, zadd, zsub, zmul, zneg, zb_e0, zb_e1, boo0, boo1, ua_s, ua_n, ua_ua, up_s, u2_s, u2_f, u2_c, u2_u2, Int.natCast_add, Int.zero_add, Int.add_zero, ↓reduceIte, ne_eq, not_true_eq_false, not_false_eq_true, Int.natCast_one, ↓zp_59_0, ↓k_X11_book_28, ↓k_X11_book_29, ↓mc_59, s_may0]
    · by_cases q2 : I 59 2 < n
      · simp (implicitDefEqProofs := false) (disch := omega) only [↓rI_s, ↓rV_s, ↓rI_e, ↓rV_e, zc_eq, zc_ne, zc_lt, zc_ge, zc_gt, zc_le, zlt_t, zlt_f, zle_t, zle_f, zeq_t, zeq_f, lz, zadd, zsub, zmul, zneg, zb_e0, zb_e1, boo0, boo1, ua_s, ua_n, ua_ua, up_s, u2_s, u2_f, u2_c, u2_u2, Int.natCast_add, Int.zero_add, Int.add_zero, ↓reduceIte, ne_eq, not_true_eq_false, not_false_eq_true, Int.natCast_one, ↓zp_59_0, ↓zg_59_2, ↓k_X11_book_28, ↓k_X11_book_29, ↓mc_59, s_may0]
      · simp (implicitDefEqProofs := false) (disch := omega) only [↓rI_s, ↓rV_s, ↓rI_e, ↓rV_e, zc_eq, zc_ne, zc_lt, zc_ge, zc_gt, zc_le, zlt_t, zlt_f, zle_t, zle_f, zeq_t, zeq_f, lz, zadd, zsub, zmul, zneg, zb_e0, zb_e1, boo0, boo1, ua_s, ua_n, ua_ua, up_s, u2_s, u2_f, u2_c, u2_u2, Int.natCast_add, Int.zero_add, Int.add_zero, ↓reduceIte, ne_eq, not_true_eq_false, not_false_eq_true, Int.natCast_one, ↓zp_59_0, ↓zg_59_2, ↓k_X11_book_28, ↓k_X11_book_29, ↓mc_59, s_may0]
end BM
