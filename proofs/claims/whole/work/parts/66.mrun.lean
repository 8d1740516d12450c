--DEPS 65.run
def mS (R : zR) (F : zF) (pk pa pb : Int → Int) (N : Int) (st : zS) (I : Nat → Nat → Int) (A : Nat → Int → Int) : Prop := mR R I A ∧ A 77 = st.2.2.2 ∧ sN R st.2.2.2 ∧ mL F I A ∧ (∀ j : Int, 0 ≤ j → j < N → A 75 (3 * j) = pk j ∧ A 75 (3 * j + 1) = pa j ∧ A 75 (3 * j + 2) = (if pk j = 5 then 3 * pb j else pb j)) ∧ I 59 39 = st.1 ∧ I 59 40 = st.2.1 ∧ I 59 41 = st.2.2.1 ∧ 0 ≤ st.1 ∧ st.1 ≤ 200
abbrev mK : List (Nat × Nat) := [(59, 39), (59, 40), (59, 41)]
abbrev mLs : List Nat := [72, 73, 77, 79]
section RM
variable {d : Nat} {W : qWt} {R : zR} {F : zF} {pk pa pb : Int → Int} {N : Int}
theorem mS.b {st : zS} {I : Nat → Nat → Int} {A : Nat → Int → Int} (h : mS R F pk pa pb N st I A) (hb : st.1 < 200) : mS R F pk pa pb N (st.1 + 1, st.2) (u2 I 59 39 (st.1 + 1)) A := by
  obtain ⟨h1, h2, h3, h4, h5, h6, h7, h8, h9, h10⟩ := h
  have f : fi [(59, 39)] I (u2 I 59 39 (st.1 + 1)) := fi.refl.f rfl
  refine ⟨h1.fi f rfl, h2, h3, h4.fi f rfl, h5, u2_s, ?_, ?_, by dsimp only; omega, by dsimp only; omega⟩
  · rw [f 59 40 rfl]; exact h7
  · rw [f 59 41 rfl]; exact h8
theorem m_loop {lev : Nat} {inner : Int → Int → zS → zS} {t : Int} {l1 : Value} (hN : N ≤ 38) (hm : ∀ i t st, st.1 ≤ (inner i t st).1) (hd : 10 ≤ d) (ht : t ≤ N) (hin : 1 ≤ lev → ∀ (n : Nat) (i t : Int) (st : zS) (I : Nat → Nat → Int) (A : Nat → Int → Int), wfP R pk pa pb n (lev - 1) i t → 0 ≤ i → t ≤ N → mS R F pk pa pb N st I A → ∃ I' A', fi mK I I' ∧ fr mLs A A' ∧ mS R F pk pa pb N (inner i t st) I' A' ∧ q_call q_MT d 204 [.ref 59, .int (zI (3 * i)), .int (zI (3 * t))] (zM I A W) = some (.inl none, zM I' A' W)) : ∀ (f n : Nat) (i : Int) (st : zS) (I : Nat → Nat → Int) (A : Nat → Int → Int) (l4 l5 : Value), wfP R pk pa pb n lev i t → 0 ≤ i → 201 ≤ (f : Int) + st.1 → mS R F pk pa pb N st I A → ∃ I' A', fi mK I I' ∧ fr mLs A A' ∧ mS R F pk pa pb N (rnL R F pk pa pb inner f i t st) I' A' ∧ q_run qm_X11_goesSteps (q_call q_MT d) 2 [.ref 59, l1, .int (zI (3 * t)), .int (zI (3 * i)), l4, l5] [] (zM I A W) = some (.inl none, zM I' A' W) := by
  intro f
  induction f with
  | zero =>
    intro n i st I A l4 l5 hw hi hf h
    have := h.2.2.2.2.2.2.2.2.2
    omega
  | succ f ih =>
    intro n i st I A l4 l5 hw hi hf h
    have h' := h
    obtain ⟨hR, hB, hN2, hL, hP, e5, e6, e7, b0, b1⟩ := h'
    rw [k_X11_goesSteps_2]
    unfold rnL
    by_cases q : i < t ∧ st.1 < 200
    · rw [if_pos q]
      cases n with
      | zero => have : i = t := hw; omega
      | succ n =>
        have hb := h.b q.2
        have f1 : fi mK I (u2 I 59 39 (st.1 + 1)) := fi.refl.f rfl
        have p := hP i hi (by omega)
        rcases hw with hw | ⟨-, ⟨k5, hlev, a0, a1, e0, e1, w1, w2⟩ | ⟨ok, w2⟩⟩
        · omega
        · rw [if_pos k5]
          rw [if_pos k5, k5] at p
          have hag : ∀ (m : Nat) (k : Int) (st : zS) (I : Nat → Nat → Int) (A : Nat → Int → Int), 0 ≤ k → k + m = pa i → mS R F pk pa pb N st I A → ∃ I' A' l5, fi mK I I' ∧ fr mLs A A' ∧ mS R F pk pa pb N (rep (inner (i + 1) (pb i)) m st) I' A' ∧ q_run qm_X11_goesSteps (q_call q_MT d) 50 [.ref 59, l1, .int (zI (3 * t)), .int (zI (3 * i)), .int (zI (3 * pb i)), .int (zI k)] [] (zM I A W) = q_run qm_X11_goesSteps (q_call q_MT d) 88 [.ref 59, l1, .int (zI (3 * t)), .int (zI (3 * i)), .int (zI (3 * pb i)), l5] [] (zM I' A' W) := by
            intro m
            induction m with
            | zero =>
              intro k st I A k0 hk h
              have p := h.2.2.2.2.1 i hi (by omega)
              refine ⟨I, A, .int (zI k), fi.refl, fr.refl, h, ?_⟩
              rw [k_X11_goesSteps_50]
              simp (implicitDefEqProofs := false) (disch := omega) only [↓rI_s, ↓rV_s, ↓rI_e, ↓rV_e, zc_eq, zc_ne, zc_lt, zc_ge, zc_gt, zc_le, zlt_t, zlt_f, zle_t, zle_f, zeq_t, zeq_f, lz, zadd, zsub, zmul, zneg, zb_e0, zb_e1, boo0, boo1, ua_s, ua_n, ua_ua, up_s, u2_s, u2_f, u2_c, u2_u2, Int.natCast_add, Int.zero_add, Int.add_zero, ↓reduceIte, ne_eq, not_true_eq_false, not_false_eq_true, Int.natCast_one, ↓zg_59_35, zl_75, p.2.1]
            | succ m ihm =>
              intro k st I A k0 hk h
              have p := h.2.2.2.2.1 i hi (by omega)
              have e5 := h.2.2.2.2.2.1
              have b0 := h.2.2.2.2.2.2.2.2.1
              have b1 := h.2.2.2.2.2.2.2.2.2
              unfold rep
              by_cases q2 : st.1 < 200
              · rw [if_pos q2]
                obtain ⟨I1, A1, g1, g2, g3, g4⟩ := hin hlev n (i + 1) (pb i) st I A w1 (by omega) (by omega) h
                obtain ⟨I2, A2, l6, g5, g6, g7, g8⟩ := ihm (k + 1) _ I1 A1 (by omega) (by omega) g3
                refine ⟨I2, A2, l6, g1.tr g5, g2.tr g6, g7, ?_⟩
                rw [show 3 * (i + 1) = 3 * i + 3 by omega] at g4
                rw [k_X11_goesSteps_50]
                simp (implicitDefEqProofs := false) (disch := omega) only [↓rI_s, ↓rV_s, ↓rI_e, ↓rV_e, zc_eq, zc_ne, zc_lt, zc_ge, zc_gt, zc_le, zlt_t, zlt_f, zle_t, zle_f, zeq_t, zeq_f, lz, zadd, zsub, zmul, zneg, zb_e0, zb_e1, boo0, boo1, ua_s, ua_n, ua_ua, up_s, u2_s, u2_f, u2_c, u2_u2, Int.natCast_add, Int.zero_add, Int.add_zero, ↓reduceIte, ne_eq, not_true_eq_false, not_false_eq_true, Int.natCast_one, ↓zg_59_35, zl_75, p.2.1, ↓zg_59_39, e5, ↓mc_59, g4]
                exact g8
              · rw [if_neg q2]
                refine ⟨I, A, .int (zI k), fi.refl, fr.refl, h, ?_⟩
                rw [k_X11_goesSteps_50]
                simp (implicitDefEqProofs := false) (disch := omega) only [↓rI_s, ↓rV_s, ↓rI_e, ↓rV_e, zc_eq, zc_ne, zc_lt, zc_ge, zc_gt, zc_le, zlt_t, zlt_f, zle_t, zle_f, zeq_t, zeq_f, lz, zadd, zsub, zmul, zneg, zb_e0, zb_e1, boo0, boo1, ua_s, ua_n, ua_ua, up_s, u2_s, u2_f, u2_c, u2_u2, Int.natCast_add, Int.zero_add, Int.add_zero, ↓reduceIte, ne_eq, not_true_eq_false, not_false_eq_true, Int.natCast_one, ↓zg_59_35, zl_75, p.2.1, ↓zg_59_39, e5]
          obtain ⟨I1, A1, l6', g1, g2, g3, g4⟩ := hag (pa i).toNat 0 _ _ A (by omega) (by omega) hb
          have hrm := rep_m (hm (i + 1) (pb i)) (pa i).toNat (st.1 + 1, st.2)
          dsimp only at hrm
          obtain ⟨I2, A2, g5, g6, g7, g8⟩ := ih n (pb i) _ I1 A1 (.int (zI (3 * pb i))) l6' w2 (by omega) (by omega) g3
          refine ⟨I2, A2, (f1.tr g1).tr g5, g2.tr g6, g7, ?_⟩
          simp (implicitDefEqProofs := false) (disch := omega) only [↓rI_s, ↓rV_s, ↓rI_e, ↓rV_e, zc_eq, zc_ne, zc_lt, zc_ge, zc_gt, zc_le, zlt_t, zlt_f, zle_t, zle_f, zeq_t, zeq_f, lz, zadd, zsub, zmul, zneg, zb_e0, zb_e1, boo0, boo1, ua_s, ua_n, ua_ua, up_s, u2_s, u2_f, u2_c, u2_u2, Int.natCast_add, Int.zero_add, Int.add_zero, ↓reduceIte, ne_eq, not_true_eq_false, not_false_eq_true, Int.natCast_one, ↓zg_59_39, ↓zp_59_39, e5, ↓zg_59_35, zl_75, p.1, p.2.1, p.2.2]
          rw [g4, k_X11_goesSteps_88]
          exact g8
        · have n5 : pk i ≠ 5 := by unfold stOK at ok; omega
          have bk : 0 ≤ pk i ∧ pk i ≤ 4 := by unfold stOK at ok; omega
          rw [if_neg n5] at p ⊢
          obtain ⟨A1, g2, g3, g4⟩ := m_goes (b := pb i) (A := A) (I := u2 I 59 39 (st.1 + 1)) (W := W) hd hb.1 hb.2.2.2.1 (by rw [hb.2.1]; exact hb.2.2.1) ok
          rw [hB] at g3 g4
          have hN3 := hN2.go (F := F) (b := pb i) hb.1.1 hL.w ok
          by_cases q3 : gosP R st.2.2.2 (pk i) (pa i)
          · have eo : one R F (pk i) (pa i) (pb i) (st.1 + 1, st.2) = (st.1 + 1, st.2.1 + 1, st.2.2.1, gosS R F st.2.2.2 (pk i) (pa i) (pb i)) := if_pos q3
            rw [zb_t q3] at g4
            rw [eo]
            have fI : fi [(59, 39), (59, 40)] I (u2 (u2 I 59 39 (st.1 + 1)) 59 40 (st.2.1 + 1)) := (fi.refl.f rfl).f rfl
            have hc : mS R F pk pa pb N (st.1 + 1, st.2.1 + 1, st.2.2.1, gosS R F st.2.2.2 (pk i) (pa i) (pb i)) (u2 (u2 I 59 39 (st.1 + 1)) 59 40 (st.2.1 + 1)) A1 := by
              refine ⟨(hR.fr g2 rfl).fi fI rfl, g3, hN3, (hL.fr g2 rfl).fi fI rfl, fun j j0 j1 => ?_, ?_, ?_, ?_, by dsimp only; omega, by dsimp only; omega⟩
              · rw [g2 75 rfl]; exact hP j j0 j1
              · rw [u2_f (by decide), u2_s]
              · rw [u2_s]
              · rw [fI 59 41 rfl]; exact e7
            obtain ⟨I2, A2, g5, g6, g7, g8⟩ := ih n (i + 1) _ _ A1 l4 l5 w2 (by omega) (by dsimp only; omega) hc
            refine ⟨I2, A2, (fI.wd rfl).tr g5, g2.tr g6, g7, ?_⟩
            rw [show 3 * (i + 1) = 3 * i + 3 by omega] at g8
            simp (implicitDefEqProofs := false) (disch := omega) only [↓rI_s, ↓rV_s, ↓rI_e, ↓rV_e, zc_eq, zc_ne, zc_lt, zc_ge, zc_gt, zc_le, zlt_t, zlt_f, zle_t, zle_f, zeq_t, zeq_f, lz, zadd, zsub, zmul, zneg, zb_e0, zb_e1, boo0, boo1, ua_s, ua_n, ua_ua, up_s, u2_s, u2_f, u2_c, u2_u2, Int.natCast_add, Int.zero_add, Int.add_zero, ↓reduceIte, ne_eq, not_true_eq_false, not_false_eq_true, Int.natCast_one, ↓zg_59_39, ↓zp_59_39, e5, ↓zg_59_35, zl_75, p.1, p.2.1, p.2.2, ↓mc_59, g4, ↓k_X11_goesSteps_146, ↓zg_59_40, ↓zp_59_40, e6]
            exact g8
          · have eo : one R F (pk i) (pa i) (pb i) (st.1 + 1, st.2) = (st.1 + 1, st.2.1, st.2.2.1 + 1, gosS R F st.2.2.2 (pk i) (pa i) (pb i)) := if_neg q3
            rw [zb_f q3] at g4
            rw [eo]
            have fI : fi [(59, 39), (59, 41)] I (u2 (u2 I 59 39 (st.1 + 1)) 59 41 (st.2.2.1 + 1)) := (fi.refl.f rfl).f rfl
            have hc : mS R F pk pa pb N (st.1 + 1, st.2.1, st.2.2.1 + 1, gosS R F st.2.2.2 (pk i) (pa i) (pb i)) (u2 (u2 I 59 39 (st.1 + 1)) 59 41 (st.2.2.1 + 1)) A1 := by
              refine ⟨(hR.fr g2 rfl).fi fI rfl, g3, hN3, (hL.fr g2 rfl).fi fI rfl, fun j j0 j1 => ?_, ?_, ?_, ?_, by dsimp only; omega, by dsimp only; omega⟩
              · rw [g2 75 rfl]; exact hP j j0 j1
              · rw [u2_f (by decide), u2_s]
              · rw [fI 59 40 rfl]; exact e6
              · rw [u2_s]
            obtain ⟨I2, A2, g5, g6, g7, g8⟩ := ih n (i + 1) _ _ A1 l4 l5 w2 (by omega) (by dsimp only; omega) hc
            refine ⟨I2, A2, (fI.wd rfl).tr g5, g2.tr g6, g7, ?_⟩
            rw [show 3 * (i + 1) = 3 * i + 3 by omega] at g8
            simp (implicitDefEqProofs := false) (disch := omega) only [↓rI_s, ↓rV_s, ↓rI_e, ↓rV_e, zc_eq, zc_ne, zc_lt, zc_ge, zc_gt, zc_le, zlt_t, zlt_f, zle_t, zle_f, zeq_t, zeq_f, lz, zadd, zsub, zmul, zneg, zb_e0, zb_e1, boo0, boo1, ua_s, ua_n, ua_ua, up_s, u2_s, u2_f, u2_c, u2_u2, Int.natCast_add, Int.zero_add, Int.add_zero, ↓reduceIte, ne_eq, not_true_eq_false, not_false_eq_true, Int.natCast_one, ↓zg_59_39, ↓zp_59_39, e5, ↓zg_59_35, zl_75, p.1, p.2.1, p.2.2, ↓mc_59, g4, ↓k_X11_goesSteps_146, ↓zg_59_41, ↓zp_59_41, e7]
            exact g8
    · rw [if_neg q]
      refine ⟨I, A, fi.refl, fr.refl, h, ?_⟩
      have hit : 0 ≤ i ∧ i ≤ 38 ∧ -1 ≤ t := by
        cases n with
        | zero => have : i = t := hw; omega
        | succ n => rcases hw with hw | ⟨hw, -⟩ <;> omega
      by_cases q2 : i < t
      · simp (implicitDefEqProofs := false) (disch := omega) only [↓rI_s, ↓rV_s, ↓rI_e, ↓rV_e, zc_eq, zc_ne, zc_lt, zc_ge, zc_gt, zc_le, zlt_t, zlt_f, zle_t, zle_f, zeq_t, zeq_f, lz, zadd, zsub, zmul, zneg, zb_e0, zb_e1, boo0, boo1, ua_s, ua_n, ua_ua, up_s, u2_s, u2_f, u2_c, u2_u2, Int.natCast_add, Int.zero_add, Int.add_zero, ↓reduceIte, ne_eq, not_true_eq_false, not_false_eq_true, Int.natCast_one, ↓zg_59_39, e5, ↓k_X11_goesSteps_152]
      · simp (implicitDefEqProofs := false) (disch := omega) only [↓rI_s, ↓rV_s, ↓rI_e, ↓rV_e, zc_eq, zc_ne, zc_lt, zc_ge, zc_gt, zc_le, zlt_t, zlt_f, zle_t, zle_f, zeq_t, zeq_f, lz, zadd, zsub, zmul, zneg, zb_e0, zb_e1, boo0, boo1, ua_s, ua_n, ua_ua, up_s, u2_s, u2_f, u2_c, u2_u2, Int.natCast_add, Int.zero_add, Int.add_zero, ↓reduceIte, ne_eq, not_true_eq_false, not_false_eq_true, Int.natCast_one, ↓k_X11_goesSteps_152]
theorem m_goesSteps : ∀ (lev : Nat) (d : Nat), 11 + lev ≤ d → ∀ (n : Nat) (i t : Int) (st : zS) (I : Nat → Nat → Int) (A : Nat → Int → Int), N ≤ 38 → wfP R pk pa pb n lev i t → 0 ≤ i → t ≤ N → mS R F pk pa pb N st I A → ∃ I' A', fi mK I I' ∧ fr mLs A A' ∧ mS R F pk pa pb N (rn R F pk pa pb lev i t st) I' A' ∧ q_call q_MT d 204 [.ref 59, .int (zI (3 * i)), .int (zI (3 * t))] (zM I A W) = some (.inl none, zM I' A' W) := by
  intro lev
  induction lev with
  | zero =>
    intro d hd n i t st I A hN hw hi ht h
    obtain ⟨d, rfl⟩ : ∃ e, d = e + 1 := ⟨d - 1, by omega⟩
    rw [cl_X11_goesSteps, k_X11_goesSteps_0]
    exact m_loop (lev := 0) hN (fun _ _ _ => Int.le_refl _) (by omega) ht (fun q => absurd q (by omega)) 201 n i st I A _ _ hw hi (by have := h.2.2.2.2.2.2.2.2.1; omega) h
  | succ l ih =>
    intro d hd n i t st I A hN hw hi ht h
    obtain ⟨d, rfl⟩ : ∃ e, d = e + 1 := ⟨d - 1, by omega⟩
    rw [cl_X11_goesSteps, k_X11_goesSteps_0]
    exact m_loop (lev := l + 1) hN (rn_m l) (by omega) ht (fun _ n i t st I A hw hi ht h => ih d (by omega) n i t st I A hN hw hi ht h) 201 n i st I A _ _ hw hi (by have := h.2.2.2.2.2.2.2.2.1; omega) h
end RM
