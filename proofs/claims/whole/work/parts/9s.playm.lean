--DEPS 9r.playe
/-! PLAY, in the reference. -/
abbrev pKm : List (Nat × Nat) := [(59, 4), (59, 5), (59, 6), (59, 7), (59, 36)]
def mQ (p : zPg) (I : Nat → Nat → Int) (A : Nat → Int → Int) : Prop := I 59 36 = 3 * (p.1 : Int) ∧ ∀ j : Nat, j < p.1 → A 74 (3 * (j : Int)) = p.2.1 j ∧ A 74 (3 * (j : Int) + 1) = p.2.2.1 j ∧ A 74 (3 * (j : Int) + 2) = (if p.2.1 j = 5 then 3 * p.2.2.2 j else p.2.2.2 j)
section PM
variable {d : Nat} {I I' : Nat → Nat → Int} {A : Nat → Int → Int} {W : qWt} {T : Int → Int} {n a w : Int} {p : zPg} {R : zR}
theorem mQ.k (h : mQ p I A) (f : fi aK I I') : mQ p I' A := ⟨(f 59 36 rfl).trans h.1, h.2⟩
abbrev tA (A : Nat → Int → Int) (p : zPg) (k x y : Int) : Nat → Int → Int := ua A 74 (up (up (up (A 74) (3 * (p.1 : Int)) k) (3 * (p.1 : Int) + 1) x) (3 * (p.1 : Int) + 2) y)
theorem m_tells {k x y : Int} (hd : 2 ≤ d) (h : mQ p I A) (hc : p.1 < 38) (hb5 : I 59 5 = -1) (hk : k = 5 → y = 0) : mQ (qAd k x y p) (u2 I 59 36 (3 * (p.1 : Int) + 3)) (tA A p k x y) ∧ q_call q_MT d 201 [.ref 59, .int (zI k), .int (zI x), .int (zI y)] (zM I A W) = some (.inl none, zM (u2 I 59 36 (3 * (p.1 : Int) + 3)) (tA A p k x y) W) := by
  obtain ⟨d, rfl⟩ : ∃ e, d = e + 1 := ⟨d - 1, by omega⟩
  obtain ⟨h1, h2⟩ := h
  have f1 := m_fine (I := I) (A := A) (W := W) (d := d) (by omega) (by omega)
  rw [zb_t hb5] at f1
  refine ⟨⟨?_, fun j hj => ?_⟩, ?_⟩
  · rw [u2_s]
    show 3 * (p.1 : Int) + 3 = 3 * ((p.1 + 1 : Nat) : Int)
    omega
  · have hj : j < p.1 + 1 := hj
    show up (up (up (A 74) (3 * (p.1 : Int)) k) (3 * (p.1 : Int) + 1) x) (3 * (p.1 : Int) + 2) y (3 * (j : Int)) = up p.2.1 p.1 k j ∧ up (up (up (A 74) (3 * (p.1 : Int)) k) (3 * (p.1 : Int) + 1) x) (3 * (p.1 : Int) + 2) y (3 * (j : Int) + 1) = up p.2.2.1 p.1 x j ∧ up (up (up (A 74) (3 * (p.1 : Int)) k) (3 * (p.1 : Int) + 1) x) (3 * (p.1 : Int) + 2) y (3 * (j : Int) + 2) = (if up p.2.1 p.1 k j = 5 then 3 * up p.2.2.2 p.1 y j else up p.2.2.2 p.1 y j)
    by_cases e : (j : Int) = p.1
    · rw [e]
      rw [up_n (j' := 3 * (p.1 : Int)) (by omega), up_n (j' := 3 * (p.1 : Int)) (by omega), up_n (j' := 3 * (p.1 : Int) + 1) (by omega)]
      rw [up_s, up_s, up_s, up_s, up_s, up_s]
      refine ⟨rfl, rfl, ?_⟩
      split
      · rename_i q
        rw [hk q]; rfl
      · rfl
    · rw [up_n (j' := 3 * (j : Int)) (by omega), up_n (j' := 3 * (j : Int)) (by omega), up_n (j' := 3 * (j : Int)) (by omega), up_n (j' := 3 * (j : Int) + 1) (by omega), up_n (j' := 3 * (j : Int) + 1) (by omega), up_n (j' := 3 * (j : Int) + 1) (by omega), up_n (j' := 3 * (j : Int) + 2) (by omega), up_n (j' := 3 * (j : Int) + 2) (by omega), up_n (j' := 3 * (j : Int) + 2) (by omega), up_n e, up_n e, up_n e]
      exact h2 j (by omega)
  · rw [cl_X11_tellsStep]
    simp (implicitDefEqProofs := false) (disch := omega) only [↓rI_s, ↓rV_s, ↓rI_e, ↓rV_e, zc_eq, zc_ne, zc_lt, zc_ge, zc_gt, zc_le, zlt_t, zlt_f, zle_t, zle_f, zeq_t, zeq_f, lz, zadd, zsub, zmul, zneg, zb_e0, zb_e1, boo0, boo1, ua_s, ua_n, ua_ua, up_s, u2_s, u2_f, u2_c, u2_u2, Int.natCast_add, Int.zero_add, Int.add_zero, ↓reduceIte, ne_eq, not_true_eq_false, not_false_eq_true, Int.natCast_one, ↓k_X11_tellsStep_0, ↓mc_59, ↓cI f1, ↓zg_59_34, ↓zg_59_36, h1, zs_74, ↓zp_59_36]
theorem m_tells_b {k x y : Int} (hd : 2 ≤ d) (n5 : I 59 5 ≠ -1) (w5 : wI (I 59 5)) : q_call q_MT d 201 [.ref 59, .int (zI k), .int (zI x), .int (zI y)] (zM I A W) = some (.inl none, zM I A W) := by
  obtain ⟨d, rfl⟩ : ∃ e, d = e + 1 := ⟨d - 1, by omega⟩
  have f1 := m_fine (I := I) (A := A) (W := W) (d := d) (by omega) w5
  rw [zb_f n5] at f1
  rw [cl_X11_tellsStep]
  simp (implicitDefEqProofs := false) (disch := omega) only [↓rI_s, ↓rV_s, ↓rI_e, ↓rV_e, zc_eq, zc_ne, zc_lt, zc_ge, zc_gt, zc_le, zlt_t, zlt_f, zle_t, zle_f, zeq_t, zeq_f, lz, zadd, zsub, zmul, zneg, zb_e0, zb_e1, boo0, boo1, ua_s, ua_n, ua_ua, up_s, u2_s, u2_f, u2_c, u2_u2, Int.natCast_add, Int.zero_add, Int.add_zero, ↓reduceIte, ne_eq, not_true_eq_false, not_false_eq_true, Int.natCast_one, ↓k_X11_tellsStep_0, ↓mc_59, ↓cI f1]
/-- a step's end -/
theorem m_fin {l1 l2 l3 : Value} {o e : Int} (hd : 2 ≤ d) (h : mTx T n e I A) (hb5 : I 59 5 = -1) (h7 : I 59 7 = o) (hQ : mQ p I A) : mE T n pKm [74] I A W (q_run qm_X11_readStep (q_call q_MT d) 260 [.ref 59, l1, l2, l3] [] (zM I A W)) (fun p' I' A' => mQ p' I' A' ∧ I' 59 7 = o) (bd (sgnS T n 59 e) fun e => .inr (e, p)) := by
  have han := h.2.2.2.2.2.1
  have ha0 := h.2.2.2.2.1
  have hn6 := h.2.2.2.2.2.2
  have e1 := m_sign (c := 59) (W := W) (d := d) (by omega) h (by omega) hb5
  rw [k_X11_readStep_260]
  rcases q1 : sgnS T n 59 e with ⟨k, q⟩ | a1
  · rw [q1] at e1
    have r1 := sgnS_l han q1
    obtain ⟨I1, x1, x2, x3, x4, x5⟩ := e1
    refine mE.bad I1 A (x1.wd rfl) fr.refl x3 x4 (by omega) ?_
    simp (implicitDefEqProofs := false) (disch := omega) only [↓rI_s, ↓rV_s, ↓rI_e, ↓rV_e, zc_eq, zc_ne, zc_lt, zc_ge, zc_gt, zc_le, zlt_t, zlt_f, zle_t, zle_f, zeq_t, zeq_f, lz, zadd, zsub, zmul, zneg, zb_e0, zb_e1, boo0, boo1, ua_s, ua_n, ua_ua, up_s, u2_s, u2_f, u2_c, u2_u2, Int.natCast_add, Int.zero_add, Int.add_zero, ↓reduceIte, ne_eq, not_true_eq_false, not_false_eq_true, Int.natCast_one, ↓mc_59, ↓cV x5]
  · rw [q1] at e1
    obtain ⟨I1, x1, x2, x3, x4⟩ := e1
    refine mE.ok I1 A (x1.wd rfl) fr.refl x2 x3 ⟨hQ.k (x1.wd rfl), (x1 59 7 rfl).trans h7⟩ ?_
    simp (implicitDefEqProofs := false) (disch := omega) only [↓rI_s, ↓rV_s, ↓rI_e, ↓rV_e, zc_eq, zc_ne, zc_lt, zc_ge, zc_gt, zc_le, zlt_t, zlt_f, zle_t, zle_f, zeq_t, zeq_f, lz, zadd, zsub, zmul, zneg, zb_e0, zb_e1, boo0, boo1, ua_s, ua_n, ua_ua, up_s, u2_s, u2_f, u2_c, u2_u2, Int.natCast_add, Int.zero_add, Int.add_zero, ↓reduceIte, ne_eq, not_true_eq_false, not_false_eq_true, Int.natCast_one, ↓mc_59, ↓cV x4]
theorem m_fin_b {l1 l2 l3 : Value} (hd : 2 ≤ d) (n5 : I 59 5 ≠ -1) (w5 : wI (I 59 5)) : q_run qm_X11_readStep (q_call q_MT d) 260 [.ref 59, l1, l2, l3] [] (zM I A W) = some (.inl none, zM I A W) := by
  have s59 := m_sign_b (I := I) (A := A) (W := W) (d := d) (c := 59) (by omega) n5 w5
  rw [k_X11_readStep_260]
  simp (implicitDefEqProofs := false) (disch := omega) only [↓rI_s, ↓rV_s, ↓rI_e, ↓rV_e, zc_eq, zc_ne, zc_lt, zc_ge, zc_gt, zc_le, zlt_t, zlt_f, zle_t, zle_f, zeq_t, zeq_f, lz, zadd, zsub, zmul, zneg, zb_e0, zb_e1, boo0, boo1, ua_s, ua_n, ua_ua, up_s, u2_s, u2_f, u2_c, u2_u2, Int.natCast_add, Int.zero_add, Int.add_zero, ↓reduceIte, ne_eq, not_true_eq_false, not_false_eq_true, Int.natCast_one, ↓mc_59, ↓cV s59]
/-- a reader of steps of the reference's -/
def mRq (W : qWt) (T : Int → Int) (n w o : Int) (dm : Nat) (U : zPp) : Prop := ∀ (d : Nat) (a : Int) (p : zPg) (I : Nat → Nat → Int) (A : Nat → Int → Int), dm ≤ d → mTx T n a I A → I 59 5 = -1 → I 59 7 = o → I 59 22 = w → mQ p I A → 4 * (p.1 : Int) ≤ a → mE T n pKm [74] I A W (q_call q_MT d 202 [.ref 59] (zM I A W)) (fun p' I' A' => mQ p' I' A' ∧ I' 59 7 = o) (qSs T n U a p)
theorem m_agLoop {lev l dm : Nat} {o : Int} {l1 l2 : Value} {l3 : Int32} (hS : qOK R n lev 4 (qSs T n (qv T n w l))) (hin : mRq W T n w o dm (qv T n w l)) (hd : dm ≤ d ∧ 3 ≤ d) : ∀ (m : Nat) (a : Int) (p : zPg) (I : Nat → Nat → Int) (A : Nat → Int → Int), (n - a).toNat < m → 4 * (p.1 : Int) ≤ a → mTx T n a I A → I 59 5 = -1 → I 59 7 = o → I 59 22 = w → mQ p I A → match qRw T n true (qv T n w l) m a p with
    | .inl (k, q) => ∃ I' A', fi pKm I I' ∧ fr [74] A A' ∧ I' 59 6 = k ∧ I' 59 5 = q ∧ 0 ≤ q ∧ q ≤ 600 ∧ q_run qm_X11_readStep (q_call q_MT d) 190 [.ref 59, l1, l2, .int l3] [] (zM I A W) = q_run qm_X11_readStep (q_call q_MT d) 213 [.ref 59, l1, l2, .int l3] [] (zM I' A' W)
    | .inr (e, p') => ∃ I' A', fi pKm I I' ∧ fr [74] A A' ∧ mTx T n e I' A' ∧ I' 59 5 = -1 ∧ I' 59 7 = o ∧ mQ p' I' A' ∧ q_run qm_X11_readStep (q_call q_MT d) 190 [.ref 59, l1, l2, .int l3] [] (zM I A W) = q_run qm_X11_readStep (q_call q_MT d) 213 [.ref 59, l1, l2, .int l3] [] (zM I' A' W) := by
  intro m
  induction m with
  | zero => intro a p I A hm; omega
  | succ m ih =>
    intro a p I A hm hpa h hb5 h7 h22 hQ
    have han := h.2.2.2.2.2.1
    have ha0 := h.2.2.2.2.1
    have hn6 := h.2.2.2.2.2.2
    have sb := sk_b (T := T) han
    have tb := h.2.1 (sk T n a)
    have f1 := m_fine (I := I) (A := A) (W := W) (d := d) (by omega) (by omega)
    rw [zb_t hb5] at f1
    have eh := m_here (W := W) (d := d) (by omega) h
    have h0 : mTx T n (sk T n a) (u2 I 59 4 (sk T n a)) A := h.u (u2_f (by decide)) u2_s (by omega) sb.2
    have f0 : fi aK I (u2 I 59 4 (sk T n a)) := fi.refl.f rfl
    have b0 : u2 I 59 4 (sk T n a) 59 5 = -1 := (u2_f (by decide)).trans hb5
    have g0 : u2 I 59 4 (sk T n a) 59 7 = o := (u2_f (by decide)).trans h7
    have k0 : u2 I 59 4 (sk T n a) 59 22 = w := (u2_f (by decide)).trans h22
    generalize u2 I 59 4 (sk T n a) = I0 at eh h0 f0 b0 g0 k0
    have fc : fi pKm I I0 := f0.wd rfl
    have hQ0 := hQ.k f0
    unfold qRw
    by_cases q : qEnd T n true a
    · rw [if_pos q]
      have q' : sk T n a < n ∧ T (sk T n a) = 93 := by
        unfold qEnd at q
        rw [if_pos rfl] at q
        exact q
      rw [if_pos q'.1, q'.2] at eh
      refine ⟨I0, A, fc, fr.refl, h0, b0, g0, hQ0, ?_⟩
      rw [k_X11_readStep_190]
      simp (implicitDefEqProofs := false) (disch := omega) only [↓rI_s, ↓rV_s, ↓rI_e, ↓rV_e, zc_eq, zc_ne, zc_lt, zc_ge, zc_gt, zc_le, zlt_t, zlt_f, zle_t, zle_f, zeq_t, zeq_f, lz, zadd, zsub, zmul, zneg, zb_e0, zb_e1, boo0, boo1, ua_s, ua_n, ua_ua, up_s, u2_s, u2_f, u2_c, u2_u2, Int.natCast_add, Int.zero_add, Int.add_zero, ↓reduceIte, ne_eq, not_true_eq_false, not_false_eq_true, Int.natCast_one, ↓mc_59, ↓cI f1, ↓cI eh]
    · rw [if_neg q]
      have q' : ¬ (sk T n a < n ∧ T (sk T n a) = 93) := fun r => q (by
        unfold qEnd
        rw [if_pos rfl]
        exact r)
      have pv : ∃ pv : Int, pv ≠ 93 ∧ (0 ≤ pv ∧ pv ≤ 255) ∧ q_call q_MT d 170 [.ref 59] (zM I A W) = some (.inl (some (.int (zI pv))), zM I0 A W) := by
        by_cases r : sk T n a < n
        · rw [if_pos r] at eh
          exact ⟨T (sk T n a), fun e => q' ⟨r, e⟩, tb, eh⟩
        · rw [if_neg r] at eh
          exact ⟨0, by decide, by decide, eh⟩
      clear eh
      obtain ⟨pv, pv1, pv2, eh⟩ := pv
      have e1 := hin d (sk T n a) p I0 A (by omega) h0 b0 g0 k0 hQ0 (by omega)
      have eq : qSs T n (qv T n w l) (sk T n a) p = qSs T n (qv T n w l) a p := by
        unfold qSs
        rw [qv_sk han]
      rw [eq] at e1
      rcases q1 : qSs T n (qv T n w l) a p with ⟨k, q⟩ | ⟨a1, p1⟩
      · rw [q1] at e1
        obtain ⟨I1, A1, x1, x2, x3, x4, x5, x6, x7⟩ := e1
        have w5 : wI (I1 59 5) := by rw [x4]; omega
        have n5 : I1 59 5 ≠ -1 := by rw [x4]; omega
        have f2 := m_fine (I := I1) (A := A1) (W := W) (d := d) (by omega) w5
        rw [zb_f n5] at f2
        refine ⟨I1, A1, fc.tr x1, x2, x3, x4, x5, x6, ?_⟩
        rw [k_X11_readStep_190]
        simp (implicitDefEqProofs := false) (disch := omega) only [↓rI_s, ↓rV_s, ↓rI_e, ↓rV_e, zc_eq, zc_ne, zc_lt, zc_ge, zc_gt, zc_le, zlt_t, zlt_f, zle_t, zle_f, zeq_t, zeq_f, lz, zadd, zsub, zmul, zneg, zb_e0, zb_e1, boo0, boo1, ua_s, ua_n, ua_ua, up_s, u2_s, u2_f, u2_c, u2_u2, Int.natCast_add, Int.zero_add, Int.add_zero, ↓reduceIte, ne_eq, not_true_eq_false, not_false_eq_true, Int.natCast_one, ↓mc_59, ↓cI f1, ↓cI eh, ↓cV x7]
        rw [k_X11_readStep_190]
        simp (implicitDefEqProofs := false) (disch := omega) only [↓rI_s, ↓rV_s, ↓rI_e, ↓rV_e, zc_eq, zc_ne, zc_lt, zc_ge, zc_gt, zc_le, zlt_t, zlt_f, zle_t, zle_f, zeq_t, zeq_f, lz, zadd, zsub, zmul, zneg, zb_e0, zb_e1, boo0, boo1, ua_s, ua_n, ua_ua, up_s, u2_s, u2_f, u2_c, u2_u2, Int.natCast_add, Int.zero_add, Int.add_zero, ↓reduceIte, ne_eq, not_true_eq_false, not_false_eq_true, Int.natCast_one, ↓mc_59, ↓cI f2]
      · rw [q1] at e1
        obtain ⟨r1, r2, r3, r4⟩ := hS.2 _ _ _ _ ha0 han hpa q1
        rw [if_neg (by decide)] at r3
        obtain ⟨I1, A1, x1, x2, x3, x4, ⟨x5, x6⟩, x7⟩ := e1
        have y := ih a1 p1 I1 A1 (by omega) (by omega) x3 x4 x6 ((x1 59 22 rfl).trans k0) x5
        have er : q_run qm_X11_readStep (q_call q_MT d) 190 [.ref 59, l1, l2, .int l3] [] (zM I A W) = q_run qm_X11_readStep (q_call q_MT d) 190 [.ref 59, l1, l2, .int l3] [] (zM I1 A1 W) := by
          rw [k_X11_readStep_190]
          simp (implicitDefEqProofs := false) (disch := omega) only [↓rI_s, ↓rV_s, ↓rI_e, ↓rV_e, zc_eq, zc_ne, zc_lt, zc_ge, zc_gt, zc_le, zlt_t, zlt_f, zle_t, zle_f, zeq_t, zeq_f, lz, zadd, zsub, zmul, zneg, zb_e0, zb_e1, boo0, boo1, ua_s, ua_n, ua_ua, up_s, u2_s, u2_f, u2_c, u2_u2, Int.natCast_add, Int.zero_add, Int.add_zero, ↓reduceIte, ne_eq, not_true_eq_false, not_false_eq_true, Int.natCast_one, ↓mc_59, ↓cI f1, ↓cI eh, ↓cV x7]
        rw [er]
        show match qRw T n true (qv T n w l) m a1 p1 with
          | .inl (k, q) => _
          | .inr (e, p') => _
        rcases hs : qRw T n true (qv T n w l) m a1 p1 with ⟨k, q⟩ | ⟨e, p'⟩
        · rw [hs] at y
          obtain ⟨I2, A2, y1, y2, y3⟩ := y
          exact ⟨I2, A2, (fc.tr x1).tr y1, x2.tr y2, y3⟩
        · rw [hs] at y
          obtain ⟨I2, A2, y1, y2, y3⟩ := y
          exact ⟨I2, A2, (fc.tr x1).tr y1, x2.tr y2, y3⟩
end PM
