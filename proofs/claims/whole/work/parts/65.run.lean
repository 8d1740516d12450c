--DEPS 64.step
/-! A row of steps in both. -/
abbrev zS : Type := Int × Int × Int × (Int → Int)
def one (R : zR) (F : zF) (k a b : Int) (st : zS) : zS := if gosP R st.2.2.2 k a then (st.1, st.2.1 + 1, st.2.2.1, gosS R F st.2.2.2 k a b) else (st.1, st.2.1, st.2.2.1 + 1, gosS R F st.2.2.2 k a b)
def rep (f : zS → zS) : Nat → zS → zS
  | 0, st => st
  | n + 1, st => if st.1 < 200 then rep f n (f st) else st
def rnL (R : zR) (F : zF) (pk pa pb : Int → Int) (inner : Int → Int → zS → zS) : Nat → Int → Int → zS → zS
  | 0, _, _, st => st
  | f + 1, i, t, st => if i < t ∧ st.1 < 200 then (if pk i = 5 then rnL R F pk pa pb inner f (pb i) t (rep (inner (i + 1) (pb i)) (pa i).toNat (st.1 + 1, st.2)) else rnL R F pk pa pb inner f (i + 1) t (one R F (pk i) (pa i) (pb i) (st.1 + 1, st.2))) else st
def rn (R : zR) (F : zF) (pk pa pb : Int → Int) : Nat → Int → Int → zS → zS
  | 0 => rnL R F pk pa pb (fun _ _ st => st) 201
  | l + 1 => rnL R F pk pa pb (rn R F pk pa pb l) 201
def wfP (R : zR) (pk pa pb : Int → Int) : Nat → Nat → Int → Int → Prop
  | 0, _, i, t => i = t
  | n + 1, lev, i, t => i = t ∨ (i < t ∧ ((pk i = 5 ∧ 1 ≤ lev ∧ 0 ≤ pa i ∧ pa i ≤ 30 ∧ i + 1 ≤ pb i ∧ pb i ≤ t ∧ wfP R pk pa pb n (lev - 1) (i + 1) (pb i) ∧ wfP R pk pa pb n lev (pb i) t) ∨ (stOK R (pk i) (pa i) ∧ wfP R pk pa pb n lev (i + 1) t)))
theorem rep_m {f : zS → zS} (hf : ∀ st, st.1 ≤ (f st).1) : ∀ (n : Nat) (st : zS), st.1 ≤ (rep f n st).1
  | 0, st => Int.le_refl _
  | n + 1, st => by
    unfold rep
    split
    · exact Int.le_trans (hf st) (rep_m hf n _)
    · exact Int.le_refl _
theorem one_1 {R : zR} {F : zF} {k a b : Int} {st : zS} : (one R F k a b st).1 = st.1 := by unfold one; split <;> rfl
theorem one_s {R : zR} {F : zF} {k a b : Int} {st : zS} : (one R F k a b st).2.2.2 = gosS R F st.2.2.2 k a b := by unfold one; split <;> rfl
theorem rnL_m {R : zR} {F : zF} {pk pa pb : Int → Int} {inner : Int → Int → zS → zS} (hf : ∀ i t st, st.1 ≤ (inner i t st).1) : ∀ (n : Nat) (i t : Int) (st : zS), st.1 ≤ (rnL R F pk pa pb inner n i t st).1
  | 0, i, t, st => Int.le_refl _
  | n + 1, i, t, st => by
    unfold rnL
    split
    · split
      · have h1 := rnL_m (R := R) (F := F) (pk := pk) (pa := pa) (pb := pb) hf n (pb i) t (rep (inner (i + 1) (pb i)) (pa i).toNat (st.1 + 1, st.2))
        have h2 := rep_m (hf (i + 1) (pb i)) (pa i).toNat (st.1 + 1, st.2)
        dsimp only at h2
        omega
      · have h1 := rnL_m (R := R) (F := F) (pk := pk) (pa := pa) (pb := pb) hf n (i + 1) t (one R F (pk i) (pa i) (pb i) (st.1 + 1, st.2))
        rw [one_1] at h1
        dsimp only at h1
        omega
    · exact Int.le_refl _
theorem rn_m {R : zR} {F : zF} {pk pa pb : Int → Int} : ∀ (l : Nat) (i t : Int) (st : zS), st.1 ≤ (rn R F pk pa pb l i t st).1
  | 0, i, t, st => rnL_m (fun _ _ _ => Int.le_refl _) 201 i t st
  | l + 1, i, t, st => rnL_m (rn_m l) 201 i t st
def cS (R : zR) (F : zF) (pk pa pb : Int → Int) (N : Int) (st : zS) (I : Nat → Nat → Int) (A : Nat → Int → Int) : Prop := cR R I A ∧ bR R st.2.2.2 (A 25) (A 26) (A 27) (A 28) (A 29) (I 24 7) (I 24 8) ∧ sN R st.2.2.2 ∧ cL F I A ∧ (∀ j : Int, 0 ≤ j → j < N → A 42 j = pk j ∧ A 43 j = pa j ∧ A 44 j = pb j) ∧ I 41 5 = st.1 ∧ I 41 6 = st.2.1 ∧ I 41 7 = st.2.2.1 ∧ 0 ≤ st.1 ∧ st.1 ≤ 200
abbrev cK : List (Nat × Nat) := [(24, 7), (24, 8), (41, 5), (41, 6), (41, 7)]
abbrev cLs : List Nat := [22, 23, 25, 26, 27, 28, 29]
section RC
variable {d : Nat} {W : qWt} {R : zR} {F : zF} {pk pa pb : Int → Int} {N : Int}
theorem cS.b {st : zS} {I : Nat → Nat → Int} {A : Nat → Int → Int} (h : cS R F pk pa pb N st I A) (hb : st.1 < 200) : cS R F pk pa pb N (st.1 + 1, st.2) (u2 I 41 5 (st.1 + 1)) A := by
  obtain ⟨h1, h2, h3, h4, h5, h6, h7, h8, h9, h10⟩ := h
  have f : fi [(41, 5)] I (u2 I 41 5 (st.1 + 1)) := fi.refl.f rfl
  refine ⟨h1.fi f rfl, ?_, h3, h4.fi f rfl, h5, u2_s, ?_, ?_, by dsimp only; omega, by dsimp only; omega⟩
  · rw [f 24 7 rfl, f 24 8 rfl]; exact h2
  · rw [f 41 6 rfl]; exact h7
  · rw [f 41 7 rfl]; exact h8
theorem c_loop {lev : Nat} {inner : Int → Int → zS → zS} {t : Int} {l2 : Value} (hN : N ≤ 38) (hl : lev ≤ 6) (hm : ∀ i t st, st.1 ≤ (inner i t st).1) (hd : 5 ≤ d) (ht : t ≤ N) (hin : 1 ≤ lev → ∀ (n : Nat) (i t : Int) (st : zS) (I : Nat → Nat → Int) (A : Nat → Int → Int), wfP R pk pa pb n (lev - 1) i t → 0 ≤ i → t ≤ N → cS R F pk pa pb N st I A → ∃ I' A', fi cK I I' ∧ fr cLs A A' ∧ cS R F pk pa pb N (inner i t st) I' A' ∧ q_call q_MT d 98 [.ref 41, .ref 24, .int (zI i), .int (zI t), .int (zI (6 - lev + 1))] (zM I A W) = some (.inl none, zM I' A' W)) : ∀ (f n : Nat) (i : Int) (st : zS) (I : Nat → Nat → Int) (A : Nat → Int → Int) (l6 : Value), wfP R pk pa pb n lev i t → 0 ≤ i → 201 ≤ (f : Int) + st.1 → cS R F pk pa pb N st I A → ∃ I' A', fi cK I I' ∧ fr cLs A A' ∧ cS R F pk pa pb N (rnL R F pk pa pb inner f i t st) I' A' ∧ q_run qm_X8_runRow (q_call q_MT d) 3 [.ref 41, .ref 24, l2, .int (zI t), .int (zI (6 - lev)), .int (zI i), l6] [] (zM I A W) = some (.inl none, zM I' A' W) := by
  intro f
  induction f with
  | zero =>
    intro n i st I A l6 hw hi hf h
    have := h.2.2.2.2.2.2.2.2.2
    omega
  | succ f ih =>
    intro n i st I A l6 hw hi hf h
    have h' := h
    obtain ⟨hR, hB, hN2, hL, hP, e5, e6, e7, b0, b1⟩ := h'
    rw [k_X8_runRow_3]
    unfold rnL
    by_cases q : i < t ∧ st.1 < 200
    · rw [if_pos q]
      cases n with
      | zero => have : i = t := hw; omega
      | succ n =>
        have hb := h.b q.2
        have f1 : fi cK I (u2 I 41 5 (st.1 + 1)) := fi.refl.f rfl
        have p := hP i hi (by omega)
        rcases hw with hw | ⟨-, ⟨k5, hlev, a0, a1, e0, e1, w1, w2⟩ | ⟨ok, w2⟩⟩
        · omega
        · rw [if_pos k5]
          rw [k5] at p
          have hag : ∀ (m : Nat) (k : Int) (st : zS) (I : Nat → Nat → Int) (A : Nat → Int → Int), 0 ≤ k → k + m = pa i → cS R F pk pa pb N st I A → ∃ I' A' l6, fi cK I I' ∧ fr cLs A A' ∧ cS R F pk pa pb N (rep (inner (i + 1) (pb i)) m st) I' A' ∧ q_run qm_X8_runRow (q_call q_MT d) 43 [.ref 41, .ref 24, l2, .int (zI t), .int (zI (6 - lev)), .int (zI i), .int (zI k)] [] (zM I A W) = q_run qm_X8_runRow (q_call q_MT d) 98 [.ref 41, .ref 24, l2, .int (zI t), .int (zI (6 - lev)), .int (zI i), l6] [] (zM I' A' W) := by
            intro m
            induction m with
            | zero =>
              intro k st I A k0 hk h
              have p := h.2.2.2.2.1 i hi (by omega)
              refine ⟨I, A, .int (zI k), fi.refl, fr.refl, h, ?_⟩
              rw [k_X8_runRow_43]
              simp (implicitDefEqProofs := false) (disch := omega) only [↓rI_s, ↓rV_s, ↓rI_e, ↓rV_e, zc_eq, zc_ne, zc_lt, zc_ge, zc_gt, zc_le, zlt_t, zlt_f, zle_t, zle_f, zeq_t, zeq_f, lz, zadd, zsub, zmul, zneg, zb_e0, zb_e1, boo0, boo1, ua_s, ua_n, ua_ua, up_s, u2_s, u2_f, u2_c, u2_u2, Int.natCast_add, Int.zero_add, Int.add_zero, ↓reduceIte, ne_eq, not_true_eq_false, not_false_eq_true, Int.natCast_one, ↓zg_41_1, zl_43, p.2.1]
            | succ m ihm =>
              intro k st I A k0 hk h
              have p := h.2.2.2.2.1 i hi (by omega)
              have e5 := h.2.2.2.2.2.1
              have b0 := h.2.2.2.2.2.2.2.2.1
              have b1 := h.2.2.2.2.2.2.2.2.2
              unfold rep
              by_cases q2 : st.1 < 200
              · rw [if_pos q2]
                obtain ⟨I1, A1, g1, g2, g3, g4⟩ := hin hlev n (i + 1) (pb i) st I A w1 (by omega) (by omega) h
                obtain ⟨I2, A2, l6, g5, g6, g7, g8⟩ := ihm (k + 1) _ I1 A1 (by omega) (by omega) g3
                refine ⟨I2, A2, l6, g1.tr g5, g2.tr g6, g7, ?_⟩
                rw [k_X8_runRow_43]
                simp (implicitDefEqProofs := false) (disch := omega) only [↓rI_s, ↓rV_s, ↓rI_e, ↓rV_e, zc_eq, zc_ne, zc_lt, zc_ge, zc_gt, zc_le, zlt_t, zlt_f, zle_t, zle_f, zeq_t, zeq_f, lz, zadd, zsub, zmul, zneg, zb_e0, zb_e1, boo0, boo1, ua_s, ua_n, ua_ua, up_s, u2_s, u2_f, u2_c, u2_u2, Int.natCast_add, Int.zero_add, Int.add_zero, ↓reduceIte, ne_eq, not_true_eq_false, not_false_eq_true, Int.natCast_one, ↓zg_41_1, zl_43, p.2.1, ↓zg_41_5, e5, ↓zg_41_2, zl_44, p.2.2, ↓mc_41, g4]
                exact g8
              · rw [if_neg q2]
                refine ⟨I, A, .int (zI k), fi.refl, fr.refl, h, ?_⟩
                rw [k_X8_runRow_43]
                simp (implicitDefEqProofs := false) (disch := omega) only [↓rI_s, ↓rV_s, ↓rI_e, ↓rV_e, zc_eq, zc_ne, zc_lt, zc_ge, zc_gt, zc_le, zlt_t, zlt_f, zle_t, zle_f, zeq_t, zeq_f, lz, zadd, zsub, zmul, zneg, zb_e0, zb_e1, boo0, boo1, ua_s, ua_n, ua_ua, up_s, u2_s, u2_f, u2_c, u2_u2, Int.natCast_add, Int.zero_add, Int.add_zero, ↓reduceIte, ne_eq, not_true_eq_false, not_false_eq_true, Int.natCast_one, ↓zg_41_1, zl_43, p.2.1, ↓zg_41_5, e5]
          obtain ⟨I1, A1, l6', g1, g2, g3, g4⟩ := hag (pa i).toNat 0 _ _ A (by omega) (by omega) hb
          have hrm := rep_m (hm (i + 1) (pb i)) (pa i).toNat (st.1 + 1, st.2)
          dsimp only at hrm
          obtain ⟨I2, A2, g5, g6, g7, g8⟩ := ih n (pb i) _ I1 A1 l6' w2 (by omega) (by omega) g3
          refine ⟨I2, A2, (f1.tr g1).tr g5, g2.tr g6, g7, ?_⟩
          have p1 := g3.2.2.2.2.1 i hi (by omega)
          simp (implicitDefEqProofs := false) (disch := omega) only [↓rI_s, ↓rV_s, ↓rI_e, ↓rV_e, zc_eq, zc_ne, zc_lt, zc_ge, zc_gt, zc_le, zlt_t, zlt_f, zle_t, zle_f, zeq_t, zeq_f, lz, zadd, zsub, zmul, zneg, zb_e0, zb_e1, boo0, boo1, ua_s, ua_n, ua_ua, up_s, u2_s, u2_f, u2_c, u2_u2, Int.natCast_add, Int.zero_add, Int.add_zero, ↓reduceIte, ne_eq, not_true_eq_false, not_false_eq_true, Int.natCast_one, ↓zg_41_5, ↓zp_41_5, e5, ↓zg_41_0, zl_42, p.1]
          rw [g4, k_X8_runRow_98]
          simp (implicitDefEqProofs := false) (disch := omega) only [↓rI_s, ↓rV_s, ↓rI_e, ↓rV_e, zc_eq, zc_ne, zc_lt, zc_ge, zc_gt, zc_le, zlt_t, zlt_f, zle_t, zle_f, zeq_t, zeq_f, lz, zadd, zsub, zmul, zneg, zb_e0, zb_e1, boo0, boo1, ua_s, ua_n, ua_ua, up_s, u2_s, u2_f, u2_c, u2_u2, Int.natCast_add, Int.zero_add, Int.add_zero, ↓reduceIte, ne_eq, not_true_eq_false, not_false_eq_true, Int.natCast_one, ↓zg_41_2, zl_44, p1.2.2, zif]
          exact g8
        · have n5 : pk i ≠ 5 := by unfold stOK at ok; omega
          have bk : 0 ≤ pk i ∧ pk i ≤ 4 := by unfold stOK at ok; omega
          rw [if_neg n5]
          obtain ⟨I1, A1, g1, g2, g3, g4⟩ := c_isDone (b := pb i) (W := W) hd hb.1 hb.2.1 hb.2.2.2.1 hb.2.2.1 ok
          dsimp only at g3 g4
          have hN3 := hb.2.2.1.go (F := F) (b := pb i) hb.1.1 hL.w ok
          have w1 := g1 41 5 rfl
          have w2' := g1 41 6 rfl
          have w3 := g1 41 7 rfl
          rw [u2_s] at w1
          rw [u2_f (by decide)] at w2' w3
          by_cases q3 : gosP R st.2.2.2 (pk i) (pa i)
          · have eo : one R F (pk i) (pa i) (pb i) (st.1 + 1, st.2) = (st.1 + 1, st.2.1 + 1, st.2.2.1, gosS R F st.2.2.2 (pk i) (pa i) (pb i)) := if_pos q3
            rw [zb_t q3] at g4
            rw [eo]
            have fI : fi [(41, 6), (41, 7)] I1 (u2 (u2 I1 41 6 (st.2.1 + 1)) 41 7 st.2.2.1) := (fi.refl.f rfl).f rfl
            have hc : cS R F pk pa pb N (st.1 + 1, st.2.1 + 1, st.2.2.1, gosS R F st.2.2.2 (pk i) (pa i) (pb i)) (u2 (u2 I1 41 6 (st.2.1 + 1)) 41 7 st.2.2.1) A1 := by
              refine ⟨((hb.1.fi g1 rfl).fr g2 rfl).fi fI rfl, ?_, hN3, ((hb.2.2.2.1.fi g1 rfl).fr g2 rfl).fi fI rfl, fun j j0 j1 => ?_, ?_, ?_, ?_, by dsimp only; omega, by dsimp only; omega⟩
              · rw [fI 24 7 rfl, fI 24 8 rfl]; exact g3
              · rw [g2 42 rfl, g2 43 rfl, g2 44 rfl]; exact hP j j0 j1
              · rw [fI 41 5 rfl]; exact w1
              · rw [u2_f (by decide), u2_s]
              · rw [u2_s]
            obtain ⟨I2, A2, g5, g6, g7, g8⟩ := ih n (i + 1) _ _ A1 (.int (zI 1)) w2 (by omega) (by dsimp only; omega) hc
            refine ⟨I2, A2, ((f1.tr (g1.wd rfl)).tr (fI.wd rfl)).tr g5, g2.tr g6, g7, ?_⟩
            simp (implicitDefEqProofs := false) (disch := omega) only [↓rI_s, ↓rV_s, ↓rI_e, ↓rV_e, zc_eq, zc_ne, zc_lt, zc_ge, zc_gt, zc_le, zlt_t, zlt_f, zle_t, zle_f, zeq_t, zeq_f, lz, zadd, zsub, zmul, zneg, zb_e0, zb_e1, boo0, boo1, ua_s, ua_n, ua_ua, up_s, u2_s, u2_f, u2_c, u2_u2, Int.natCast_add, Int.zero_add, Int.add_zero, ↓reduceIte, ne_eq, not_true_eq_false, not_false_eq_true, Int.natCast_one, ↓zg_41_5, ↓zp_41_5, e5, ↓zg_41_0, zl_42, p.1, ↓zg_41_1, zl_43, p.2.1, ↓zg_41_2, zl_44, p.2.2, g4, ↓k_X8_runRow_159, ↓k_X8_runRow_178, ↓zg_41_6, ↓zp_41_6, ↓zg_41_7, ↓zp_41_7, w2', w3, e6, e7]
            exact g8
          · have eo : one R F (pk i) (pa i) (pb i) (st.1 + 1, st.2) = (st.1 + 1, st.2.1, st.2.2.1 + 1, gosS R F st.2.2.2 (pk i) (pa i) (pb i)) := if_neg q3
            rw [zb_f q3] at g4
            rw [eo]
            have fI : fi [(41, 6), (41, 7)] I1 (u2 (u2 I1 41 6 st.2.1) 41 7 (st.2.2.1 + 1)) := (fi.refl.f rfl).f rfl
            have hc : cS R F pk pa pb N (st.1 + 1, st.2.1, st.2.2.1 + 1, gosS R F st.2.2.2 (pk i) (pa i) (pb i)) (u2 (u2 I1 41 6 st.2.1) 41 7 (st.2.2.1 + 1)) A1 := by
              refine ⟨((hb.1.fi g1 rfl).fr g2 rfl).fi fI rfl, ?_, hN3, ((hb.2.2.2.1.fi g1 rfl).fr g2 rfl).fi fI rfl, fun j j0 j1 => ?_, ?_, ?_, ?_, by dsimp only; omega, by dsimp only; omega⟩
              · rw [fI 24 7 rfl, fI 24 8 rfl]; exact g3
              · rw [g2 42 rfl, g2 43 rfl, g2 44 rfl]; exact hP j j0 j1
              · rw [fI 41 5 rfl]; exact w1
              · rw [u2_f (by decide), u2_s]
              · rw [u2_s]
            obtain ⟨I2, A2, g5, g6, g7, g8⟩ := ih n (i + 1) _ _ A1 (.int (zI 0)) w2 (by omega) (by dsimp only; omega) hc
            refine ⟨I2, A2, ((f1.tr (g1.wd rfl)).tr (fI.wd rfl)).tr g5, g2.tr g6, g7, ?_⟩
            simp (implicitDefEqProofs := false) (disch := omega) only [↓rI_s, ↓rV_s, ↓rI_e, ↓rV_e, zc_eq, zc_ne, zc_lt, zc_ge, zc_gt, zc_le, zlt_t, zlt_f, zle_t, zle_f, zeq_t, zeq_f, lz, zadd, zsub, zmul, zneg, zb_e0, zb_e1, boo0, boo1, ua_s, ua_n, ua_ua, up_s, u2_s, u2_f, u2_c, u2_u2, Int.natCast_add, Int.zero_add, Int.add_zero, ↓reduceIte, ne_eq, not_true_eq_false, not_false_eq_true, Int.natCast_one, ↓zg_41_5, ↓zp_41_5, e5, ↓zg_41_0, zl_42, p.1, ↓zg_41_1, zl_43, p.2.1, ↓zg_41_2, zl_44, p.2.2, g4, ↓k_X8_runRow_159, ↓k_X8_runRow_178, ↓zg_41_6, ↓zp_41_6, ↓zg_41_7, ↓zp_41_7, w2', w3, e6, e7]
            exact g8
    · rw [if_neg q]
      refine ⟨I, A, fi.refl, fr.refl, h, ?_⟩
      have hit : 0 ≤ i ∧ i ≤ 38 ∧ -1 ≤ t := by
        cases n with
        | zero => have : i = t := hw; omega
        | succ n => rcases hw with hw | ⟨hw, -⟩ <;> omega
      by_cases q2 : i < t
      · simp (implicitDefEqProofs := false) (disch := omega) only [↓rI_s, ↓rV_s, ↓rI_e, ↓rV_e, zc_eq, zc_ne, zc_lt, zc_ge, zc_gt, zc_le, zlt_t, zlt_f, zle_t, zle_f, zeq_t, zeq_f, lz, zadd, zsub, zmul, zneg, zb_e0, zb_e1, boo0, boo1, ua_s, ua_n, ua_ua, up_s, u2_s, u2_f, u2_c, u2_u2, Int.natCast_add, Int.zero_add, Int.add_zero, ↓reduceIte, ne_eq, not_true_eq_false, not_false_eq_true, Int.natCast_one, ↓zg_41_5, e5, ↓k_X8_runRow_188]
      · simp (implicitDefEqProofs := false) (disch := omega) only [↓rI_s, ↓rV_s, ↓rI_e, ↓rV_e, zc_eq, zc_ne, zc_lt, zc_ge, zc_gt, zc_le, zlt_t, zlt_f, zle_t, zle_f, zeq_t, zeq_f, lz, zadd, zsub, zmul, zneg, zb_e0, zb_e1, boo0, boo1, ua_s, ua_n, ua_ua, up_s, u2_s, u2_f, u2_c, u2_u2, Int.natCast_add, Int.zero_add, Int.add_zero, ↓reduceIte, ne_eq, not_true_eq_false, not_false_eq_true, Int.natCast_one, ↓k_X8_runRow_188]
theorem c_runRow : ∀ (lev : Nat) (d : Nat), lev ≤ 6 → 6 + lev ≤ d → ∀ (n : Nat) (i t : Int) (st : zS) (I : Nat → Nat → Int) (A : Nat → Int → Int), N ≤ 38 → wfP R pk pa pb n lev i t → 0 ≤ i → t ≤ N → cS R F pk pa pb N st I A → ∃ I' A', fi cK I I' ∧ fr cLs A A' ∧ cS R F pk pa pb N (rn R F pk pa pb lev i t st) I' A' ∧ q_call q_MT d 98 [.ref 41, .ref 24, .int (zI i), .int (zI t), .int (zI (6 - lev))] (zM I A W) = some (.inl none, zM I' A' W) := by
  intro lev
  induction lev with
  | zero =>
    intro d _ hd n i t st I A hN hw hi ht h
    obtain ⟨d, rfl⟩ : ∃ e, d = e + 1 := ⟨d - 1, by omega⟩
    rw [cl_X8_runRow, k_X8_runRow_0]
    exact c_loop (lev := 0) hN (by omega) (fun _ _ _ => Int.le_refl _) (by omega) ht (fun q => absurd q (by omega)) 201 n i st I A _ hw hi (by have := h.2.2.2.2.2.2.2.2.1; omega) h
  | succ l ih =>
    intro d hl hd n i t st I A hN hw hi ht h
    obtain ⟨d, rfl⟩ : ∃ e, d = e + 1 := ⟨d - 1, by omega⟩
    rw [cl_X8_runRow, k_X8_runRow_0]
    refine c_loop (lev := l + 1) hN (by omega) (rn_m l) (by omega) ht (fun _ n i t st I A hw hi ht h => ?_) 201 n i st I A _ hw hi (by have := h.2.2.2.2.2.2.2.2.1; omega) h
    have := ih d (by omega) (by omega) n i t st I A hN hw hi ht h
    rw [show (6 : Int) - ((l + 1 : Nat) : Int) + 1 = 6 - l by omega]
    exact this
theorem c_run {n : Nat} {s : Int → Int} {I : Nat → Nat → Int} {A : Nat → Int → Int} (hd : 13 ≤ d) (hN0 : 0 ≤ N) (hN : N ≤ 38) (hw : wfP R pk pa pb n 6 0 N) (hR : cR R I A) (hB : bR R s (A 25) (A 26) (A 27) (A 28) (A 29) (I 24 7) (I 24 8)) (hs : sN R s) (hL : cL F I A) (hP : ∀ j : Int, 0 ≤ j → j < N → A 42 j = pk j ∧ A 43 j = pa j ∧ A 44 j = pb j) (h3 : I 41 3 = N) : ∃ I' A', fi cK I I' ∧ fr cLs A A' ∧ cS R F pk pa pb N (rn R F pk pa pb 6 0 N (0, 0, 0, s)) I' A' ∧ q_call q_MT d 97 [.ref 41, .ref 24] (zM I A W) = some (.inl none, zM I' A' W) := by
  obtain ⟨d, rfl⟩ : ∃ e, d = e + 1 := ⟨d - 1, by omega⟩
  have f : fi [(41, 5), (41, 6), (41, 7)] I (u2 (u2 (u2 I 41 5 0) 41 6 0) 41 7 0) := ((fi.refl.f rfl).f rfl).f rfl
  have hc : cS R F pk pa pb N (0, 0, 0, s) (u2 (u2 (u2 I 41 5 0) 41 6 0) 41 7 0) A := by
    refine ⟨hR.fi f rfl, ?_, hs, hL.fi f rfl, hP, ?_, ?_, ?_, Int.le_refl _, show (0 : Int) ≤ 200 by decide⟩
    · rw [f 24 7 rfl, f 24 8 rfl]; exact hB
    · rw [u2_f (by decide), u2_f (by decide), u2_s]
    · rw [u2_f (by decide), u2_s]
    · rw [u2_s]
  obtain ⟨I', A', g1, g2, g3, g4⟩ := c_runRow (W := W) 6 d (by omega) (by omega) n 0 N _ _ A hN hw (by omega) (Int.le_refl _) hc
  refine ⟨I', A', (f.wd rfl).tr g1, g2, g3, ?_⟩
  rw [cl_X8_run]
  simp (implicitDefEqProofs := false) (disch := omega) only [↓rI_s, ↓rV_s, ↓rI_e, ↓rV_e, zc_eq, zc_ne, zc_lt, zc_ge, zc_gt, zc_le, zlt_t, zlt_f, zle_t, zle_f, zeq_t, zeq_f, lz, zadd, zsub, zmul, zneg, zb_e0, zb_e1, boo0, boo1, ua_s, ua_n, ua_ua, up_s, u2_s, u2_f, u2_c, u2_u2, Int.natCast_add, Int.zero_add, Int.add_zero, ↓reduceIte, ne_eq, not_true_eq_false, not_false_eq_true, Int.natCast_one, ↓k_X8_run_0, zp_41_5, zp_41_6, zp_41_7, ↓zg_41_3, ↓mc_41, h3]
  rw [show (6 : Int) - ((6 : Nat) : Int) = 0 by rfl] at g4
  rw [g4]
  simp (implicitDefEqProofs := false) (disch := omega) only [↓rI_s, ↓rV_s, ↓rI_e, ↓rV_e, zc_eq, zc_ne, zc_lt, zc_ge, zc_gt, zc_le, zlt_t, zlt_f, zle_t, zle_f, zeq_t, zeq_f, lz, zadd, zsub, zmul, zneg, zb_e0, zb_e1, boo0, boo1, ua_s, ua_n, ua_ua, up_s, u2_s, u2_f, u2_c, u2_u2, Int.natCast_add, Int.zero_add, Int.add_zero, ↓reduceIte, ne_eq, not_true_eq_false, not_false_eq_true, Int.natCast_one]
end RC
