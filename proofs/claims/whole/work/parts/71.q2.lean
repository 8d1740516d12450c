--DEPS 70.q1
/-! Where a flick comes down. -/
theorem cX.t {R : zR} {F : zF} {s : Int → Int} {I I' : Nat → Nat → Int} {A A' : Nat → Int → Int} (h : cX R F s I A) (f : fi Kq I I') (g : fr Lq A A') : cX R F s I' A' := by
  obtain ⟨h1, h2, h3, h4⟩ := h
  refine ⟨(h1.fi f rfl).fr g rfl, ?_, h3, (h4.fi f rfl).fr g rfl⟩
  rw [f 24 7 rfl, f 24 8 rfl, g 25 rfl, g 26 rfl, g 27 rfl, g 28 rfl, g 29 rfl]; exact h2
def mY (R : zR) (F : zF) (s : Int → Int) (I : Nat → Nat → Int) (A : Nat → Int → Int) : Prop := mR R I A ∧ A 77 = s ∧ sN R s ∧ mL F I A
abbrev Lr : List Nat := [72, 73, 79, 82, 83, 84, 85, 86, 87]
theorem mY.t {R : zR} {F : zF} {s : Int → Int} {I I' : Nat → Nat → Int} {A A' : Nat → Int → Int} (h : mY R F s I A) (f : fi Kq I I') (g : fr Lr A A') : mY R F s I' A' := by
  obtain ⟨h1, h2, h3, h4⟩ := h
  exact ⟨(h1.fi f rfl).fr g rfl, (g 77 rfl).trans h2, h3, (h4.fi f rfl).fr g rfl⟩
theorem mX.y {R : zR} {F : zF} {s : Int → Int} {I : Nat → Nat → Int} {A : Nat → Int → Int} (h : mX R F s I A) : mY R F s (u2 I 59 0 0) (ua A 77 s) := ⟨h.1.z, ua_s, h.2.2.1, h.2.2.2.z⟩
theorem cupAt_off {R : zR} (hR : wR R) {x : Int} (hx : x < 0 ∨ rF R ≤ x) : cupAt R x = -1 := by
  by_cases h2 : x = -2
  · unfold cupAt
    refine fst_no fun k hk q => ?_
    have := hR.2.2.2.2.2.2.2.2.2.1 k (by omega) (by omega)
    have := of_decide_eq_true q
    omega
  · by_cases q : cupAt R x = -1
    · exact q
    · have := lndC_f hR (x := x) (by unfold lndC; rw [if_neg h2]; exact q)
      omega
def dwn (R : zR) (F : zF) (s : Int → Int) (w p h : Int) : Int := if free R s w then dn R F s w p h else -3
def chit (R : zR) (F : zF) (s : Int → Int) (w p h : Int) : Int := if dwn R F s w p h < 0 ∨ dwn R F s w p h = s w then -1 else cupAt R (dwn R F s w p h)
def paid (R : zR) (F : zF) (s : Int → Int) (w p h : Int) : Int := if chit R F s w p h = -1 then 0 else rP R (chit R F s w p h)
theorem chit_b {R : zR} {F : zF} {s : Int → Int} {w p h : Int} : -1 ≤ chit R F s w p h ∧ (chit R F s w p h < rC R) := by
  unfold chit
  split
  · omega
  · exact ⟨cupAt_lo R _, cupAt_hi R _⟩
theorem paid_b {R : zR} {F : zF} {s : Int → Int} {w p h : Int} (hR : wR R) : 0 ≤ paid R F s w p h ∧ paid R F s w p h ≤ 99 := by
  unfold paid
  split
  · omega
  · have b := chit_b (R := R) (F := F) (s := s) (w := w) (p := p) (h := h)
    have := hR.2.2.2.2.2.2.2.2.2.2 (chit R F s w p h) (by omega) b.2
    omega
def trB (f : Int → Int) : Nat → Int × Int
  | 0 => (-1, 0)
  | n + 1 => if (trB f n).2 < f n then ((n : Int), f n) else trB f n
theorem trB_b (R : zR) (s : Int → Int) : ∀ n : Nat, -1 ≤ (trB (many R s) n).1 ∧ (trB (many R s) n).1 < n ∧ 0 ≤ (trB (many R s) n).2 ∧ (trB (many R s) n).2 ≤ rW R
  | 0 => by unfold trB; omega
  | n + 1 => by
    have := trB_b R s n
    have m1 := many_hi R s n
    have m0 := many_lo R s n
    unfold trB
    split
    · dsimp only; omega
    · omega
def vTrust (R : zR) (s : Int → Int) (k : Int) : Int := if (trB (many R s) (rF R).toNat).1 = -1 ∨ k = 0 then (trB (many R s) (rF R).toNat).1 else (trB (many R s) (rF R).toNat).2
section Q2
variable {d : Nat} {I : Nat → Nat → Int} {A : Nat → Int → Int} {W : qWt} {R : zR} {F : zF} {s : Int → Int}
theorem C_trust {k : Int} (hd : 6 ≤ d) (hX : cX R F s I A) (hk : wI k) : cOut I A W (q_call q_MT d 124 [.ref 2, .int (zI k)] (zM I A W)) (if 0 ≤ k ∧ k ≤ 1 then 0 else 2) (vTrust R s k) := by
  obtain ⟨d, rfl⟩ : ∃ e, d = e + 1 := ⟨d - 1, by omega⟩
  obtain ⟨hR, hB, ⟨hV, -⟩, hL⟩ := hX
  have hw := hR.1.2.1
  have hf := hR.1.2.2.2.2.1
  have hf1 := hR.1.2.2.2.1
  have e3 := hR.2.2.2.2.1
  rw [cl_X10_trust]
  by_cases h1 : 0 ≤ k ∧ k ≤ 1
  · rw [if_pos h1]
    refine cOut.ok fi.refl fr.refl ?_
    simp (implicitDefEqProofs := false) (disch := omega) only [↓rI_s, ↓rV_s, ↓rI_e, ↓rV_e, zc_eq, zc_ne, zc_lt, zc_ge, zc_gt, zc_le, zlt_t, zlt_f, zle_t, zle_f, zeq_t, zeq_f, lz, zadd, zsub, zmul, zneg, zb_e0, zb_e1, boo0, boo1, ua_s, ua_n, ua_ua, up_s, u2_s, u2_f, u2_c, u2_u2, Int.natCast_add, Int.zero_add, Int.add_zero, ↓reduceIte, ne_eq, not_true_eq_false, not_false_eq_true, Int.natCast_one, ↓k_X10_trust_0, ↓mc_2, s_needWink (show 2 ≤ d by omega) hR, s_needWink_f (show 2 ≤ d by omega) hR, s_needCup (show 2 ≤ d by omega) hR, s_needCup_f (show 2 ≤ d by omega) hR, s_needHouse (show 2 ≤ d by omega) hR, s_needHouse_f (show 2 ≤ d by omega) hR, s_needThere, s_needThere_f, s_needPress, s_needPress_f, s_needWhat, s_needWhat_f, s_needWithin, s_needWithin_f, s_need1, s_need0, t0_0, t0_1]
    refine lp_x (fun j (a : Unit) => q_run qm_X10_trust (q_call q_MT d) 13 [.ref 2, .int (zI k), .int (zI (trB (many R s) j).2), .int (zI (trB (many R s) j).1), .int (zI j)] [] (zM I A W)) (fun _ _ => True) (fun r => r = _) (rF R).toNat ?_ ?_ 0 () (by omega) trivial
    · intro _ _
      have tb := trB_b R s (rF R).toNat
      rw [k_X10_trust_13]
      by_cases q : (trB (many R s) (rF R).toNat).1 = -1
      · have ev : vTrust R s k = (trB (many R s) (rF R).toNat).1 := if_pos (.inl q)
        rw [ev, q]
        simp (implicitDefEqProofs := false) (disch := omega) only [↓rI_s, ↓rV_s, ↓rI_e, ↓rV_e, zc_eq, zc_ne, zc_lt, zc_ge, zc_gt, zc_le, zlt_t, zlt_f, zle_t, zle_f, zeq_t, zeq_f, lz, zadd, zsub, zmul, zneg, zb_e0, zb_e1, boo0, boo1, ua_s, ua_n, ua_ua, up_s, u2_s, u2_f, u2_c, u2_u2, Int.natCast_add, Int.zero_add, Int.add_zero, ↓reduceIte, ne_eq, not_true_eq_false, not_false_eq_true, Int.natCast_one, ↓zg_2_1, ↓zg_5_3, e3]
      · by_cases q2 : k = 0
        · have ev : vTrust R s k = (trB (many R s) (rF R).toNat).1 := if_pos (.inr q2)
          rw [ev]
          simp (implicitDefEqProofs := false) (disch := omega) only [↓rI_s, ↓rV_s, ↓rI_e, ↓rV_e, zc_eq, zc_ne, zc_lt, zc_ge, zc_gt, zc_le, zlt_t, zlt_f, zle_t, zle_f, zeq_t, zeq_f, lz, zadd, zsub, zmul, zneg, zb_e0, zb_e1, boo0, boo1, ua_s, ua_n, ua_ua, up_s, u2_s, u2_f, u2_c, u2_u2, Int.natCast_add, Int.zero_add, Int.add_zero, ↓reduceIte, ne_eq, not_true_eq_false, not_false_eq_true, Int.natCast_one, ↓zg_2_1, ↓zg_5_3, e3, ↓k_X10_trust_75]
        · have ev : vTrust R s k = (trB (many R s) (rF R).toNat).2 := if_neg (by omega)
          rw [ev]
          simp (implicitDefEqProofs := false) (disch := omega) only [↓rI_s, ↓rV_s, ↓rI_e, ↓rV_e, zc_eq, zc_ne, zc_lt, zc_ge, zc_gt, zc_le, zlt_t, zlt_f, zle_t, zle_f, zeq_t, zeq_f, lz, zadd, zsub, zmul, zneg, zb_e0, zb_e1, boo0, boo1, ua_s, ua_n, ua_ua, up_s, u2_s, u2_f, u2_c, u2_u2, Int.natCast_add, Int.zero_add, Int.add_zero, ↓reduceIte, ne_eq, not_true_eq_false, not_false_eq_true, Int.natCast_one, ↓zg_2_1, ↓zg_5_3, e3, ↓k_X10_trust_75]
    · intro j _ hj _
      refine .inr ⟨(), trivial, ?_⟩
      have tb := trB_b R s j
      have b5 := hB.2.2.2.2.1 j (by omega) (by omega)
      have m0 := many_lo R s j
      have m1 := many_hi R s j
      rw [k_X10_trust_13]
      by_cases q : (trB (many R s) j).2 < many R s j
      · have e : trB (many R s) (j + 1) = ((j : Int), many R s j) := if_pos q
        rw [e]
        simp (implicitDefEqProofs := false) (disch := omega) only [↓rI_s, ↓rV_s, ↓rI_e, ↓rV_e, zc_eq, zc_ne, zc_lt, zc_ge, zc_gt, zc_le, zlt_t, zlt_f, zle_t, zle_f, zeq_t, zeq_f, lz, zadd, zsub, zmul, zneg, zb_e0, zb_e1, boo0, boo1, ua_s, ua_n, ua_ua, up_s, u2_s, u2_f, u2_c, u2_u2, Int.natCast_add, Int.zero_add, Int.add_zero, ↓reduceIte, ne_eq, not_true_eq_false, not_false_eq_true, Int.natCast_one, ↓zg_2_1, ↓zg_5_3, e3, ↓zg_2_6, ↓zg_24_6, zl_29, b5, ↓k_X10_trust_53]
      · have e : trB (many R s) (j + 1) = trB (many R s) j := if_neg q
        rw [e]
        simp (implicitDefEqProofs := false) (disch := omega) only [↓rI_s, ↓rV_s, ↓rI_e, ↓rV_e, zc_eq, zc_ne, zc_lt, zc_ge, zc_gt, zc_le, zlt_t, zlt_f, zle_t, zle_f, zeq_t, zeq_f, lz, zadd, zsub, zmul, zneg, zb_e0, zb_e1, boo0, boo1, ua_s, ua_n, ua_ua, up_s, u2_s, u2_f, u2_c, u2_u2, Int.natCast_add, Int.zero_add, Int.add_zero, ↓reduceIte, ne_eq, not_true_eq_false, not_false_eq_true, Int.natCast_one, ↓zg_2_1, ↓zg_5_3, e3, ↓zg_2_6, ↓zg_24_6, zl_29, b5, ↓k_X10_trust_53]
  · rw [if_neg h1]
    exact cOut.il (by simp (implicitDefEqProofs := false) (disch := omega) only [↓rI_s, ↓rV_s, ↓rI_e, ↓rV_e, zc_eq, zc_ne, zc_lt, zc_ge, zc_gt, zc_le, zlt_t, zlt_f, zle_t, zle_f, zeq_t, zeq_f, lz, zadd, zsub, zmul, zneg, zb_e0, zb_e1, boo0, boo1, ua_s, ua_n, ua_ua, up_s, u2_s, u2_f, u2_c, u2_u2, Int.natCast_add, Int.zero_add, Int.add_zero, ↓reduceIte, ne_eq, not_true_eq_false, not_false_eq_true, Int.natCast_one, ↓k_X10_trust_0, ↓mc_2, s_needWink (show 2 ≤ d by omega) hR, s_needWink_f (show 2 ≤ d by omega) hR, s_needCup (show 2 ≤ d by omega) hR, s_needCup_f (show 2 ≤ d by omega) hR, s_needHouse (show 2 ≤ d by omega) hR, s_needHouse_f (show 2 ≤ d by omega) hR, s_needThere, s_needThere_f, s_needPress, s_needPress_f, s_needWhat, s_needWhat_f, s_needWithin, s_needWithin_f, s_need1, s_need0, t0_0, t0_1])
theorem M_trust {k : Int} (hd : 6 ≤ d) (hX : mX R F s I A) (hk : wI k) : mOut I A W (q_call q_MT d 266 [.ref 59, .int (zI k)] (zM I A W)) (if 0 ≤ k ∧ k ≤ 1 then 0 else 2) (vTrust R s k) 1 := by
  obtain ⟨d, rfl⟩ : ∃ e, d = e + 1 := ⟨d - 1, by omega⟩
  obtain ⟨hR, hs, ⟨hV, -⟩, hL⟩ := hX
  have hw := hR.1.2.1
  have hf := hR.1.2.2.2.2.1
  have hf1 := hR.1.2.2.2.1
  have e3 := hR.2.2.2.2.1
  have hsb := hV.1.b hR.1
  rw [cl_X11_trust]
  by_cases h1 : 0 ≤ k ∧ k ≤ 1
  · rw [if_pos h1]
    refine mOut.ok (I1 := u2 I 59 0 0) (A1 := ua A 77 s) (fi.refl.f rfl) (fr.refl.a rfl) u2_s ?_
    simp (implicitDefEqProofs := false) (disch := omega) only [↓rI_s, ↓rV_s, ↓rI_e, ↓rV_e, zc_eq, zc_ne, zc_lt, zc_ge, zc_gt, zc_le, zlt_t, zlt_f, zle_t, zle_f, zeq_t, zeq_f, lz, zadd, zsub, zmul, zneg, zb_e0, zb_e1, boo0, boo1, ua_s, ua_n, ua_ua, up_s, u2_s, u2_f, u2_c, u2_u2, Int.natCast_add, Int.zero_add, Int.add_zero, ↓reduceIte, ne_eq, not_true_eq_false, not_false_eq_true, Int.natCast_one, ↓k_X11_trust_0, ↓mc_59, ↓zp_59_0, s_within, s_within_f, s_isPress, s_isPress_f, s_isWink (show 2 ≤ d by omega) hR, s_isWink_f (show 2 ≤ d by omega) hR, s_isHouse (show 2 ≤ d by omega) hR, s_isHouse_f (show 2 ≤ d by omega) hR, s_may1, s_may0, m_take (show 2 ≤ d by omega), hs]
    refine lp_x (fun j (a : Unit) => q_run qm_X11_trust (q_call q_MT d) 33 [.ref 59, .int (zI k), .int (zI (trB (many R s) j).1), .int (zI (trB (many R s) j).2), .int (zI j)] [] (zM (u2 I 59 0 0) (ua A 77 s) W)) (fun _ _ => True) (fun r => r = _) (rF R).toNat ?_ ?_ 0 () (by omega) trivial
    · intro _ _
      have tb := trB_b R s (rF R).toNat
      rw [k_X11_trust_33]
      by_cases q : (trB (many R s) (rF R).toNat).1 = -1
      · have ev : vTrust R s k = (trB (many R s) (rF R).toNat).1 := if_pos (.inl q)
        rw [ev, q]
        by_cases q2 : k = 0
        · simp (implicitDefEqProofs := false) (disch := omega) only [↓rI_s, ↓rV_s, ↓rI_e, ↓rV_e, zc_eq, zc_ne, zc_lt, zc_ge, zc_gt, zc_le, zlt_t, zlt_f, zle_t, zle_f, zeq_t, zeq_f, lz, zadd, zsub, zmul, zneg, zb_e0, zb_e1, boo0, boo1, ua_s, ua_n, ua_ua, up_s, u2_s, u2_f, u2_c, u2_u2, Int.natCast_add, Int.zero_add, Int.add_zero, ↓reduceIte, ne_eq, not_true_eq_false, not_false_eq_true, Int.natCast_one, ↓k_X11_trust_0, ↓k_X11_trust_65, ↓k_X11_trust_80, ↓k_X11_trust_85, zp_59_0, ↓mc_59, ↓zg_59_24, e3]
        · simp (implicitDefEqProofs := false) (disch := omega) only [↓rI_s, ↓rV_s, ↓rI_e, ↓rV_e, zc_eq, zc_ne, zc_lt, zc_ge, zc_gt, zc_le, zlt_t, zlt_f, zle_t, zle_f, zeq_t, zeq_f, lz, zadd, zsub, zmul, zneg, zb_e0, zb_e1, boo0, boo1, ua_s, ua_n, ua_ua, up_s, u2_s, u2_f, u2_c, u2_u2, Int.natCast_add, Int.zero_add, Int.add_zero, ↓reduceIte, ne_eq, not_true_eq_false, not_false_eq_true, Int.natCast_one, ↓k_X11_trust_0, ↓k_X11_trust_65, ↓k_X11_trust_80, ↓k_X11_trust_85, zp_59_0, ↓mc_59, ↓zg_59_24, e3]
      · by_cases q2 : k = 0
        · have ev : vTrust R s k = (trB (many R s) (rF R).toNat).1 := if_pos (.inr q2)
          rw [ev]
          simp (implicitDefEqProofs := false) (disch := omega) only [↓rI_s, ↓rV_s, ↓rI_e, ↓rV_e, zc_eq, zc_ne, zc_lt, zc_ge, zc_gt, zc_le, zlt_t, zlt_f, zle_t, zle_f, zeq_t, zeq_f, lz, zadd, zsub, zmul, zneg, zb_e0, zb_e1, boo0, boo1, ua_s, ua_n, ua_ua, up_s, u2_s, u2_f, u2_c, u2_u2, Int.natCast_add, Int.zero_add, Int.add_zero, ↓reduceIte, ne_eq, not_true_eq_false, not_false_eq_true, Int.natCast_one, ↓k_X11_trust_0, ↓k_X11_trust_65, ↓k_X11_trust_80, ↓k_X11_trust_85, zp_59_0, ↓mc_59, ↓zg_59_24, e3]
        · have ev : vTrust R s k = (trB (many R s) (rF R).toNat).2 := if_neg (by omega)
          rw [ev]
          simp (implicitDefEqProofs := false) (disch := omega) only [↓rI_s, ↓rV_s, ↓rI_e, ↓rV_e, zc_eq, zc_ne, zc_lt, zc_ge, zc_gt, zc_le, zlt_t, zlt_f, zle_t, zle_f, zeq_t, zeq_f, lz, zadd, zsub, zmul, zneg, zb_e0, zb_e1, boo0, boo1, ua_s, ua_n, ua_ua, up_s, u2_s, u2_f, u2_c, u2_u2, Int.natCast_add, Int.zero_add, Int.add_zero, ↓reduceIte, ne_eq, not_true_eq_false, not_false_eq_true, Int.natCast_one, ↓k_X11_trust_0, ↓k_X11_trust_65, ↓k_X11_trust_80, ↓k_X11_trust_85, zp_59_0, ↓mc_59, ↓zg_59_24, e3]
    · intro j _ hj _
      refine .inr ⟨(), trivial, ?_⟩
      have tb := trB_b R s j
      have m0 := many_lo R s j
      have m1 := many_hi R s j
      rw [k_X11_trust_33]
      simp (implicitDefEqProofs := false) (disch := omega) only [↓rI_s, ↓rV_s, ↓rI_e, ↓rV_e, zc_eq, zc_ne, zc_lt, zc_ge, zc_gt, zc_le, zlt_t, zlt_f, zle_t, zle_f, zeq_t, zeq_f, lz, zadd, zsub, zmul, zneg, zb_e0, zb_e1, boo0, boo1, ua_s, ua_n, ua_ua, up_s, u2_s, u2_f, u2_c, u2_u2, Int.natCast_add, Int.zero_add, Int.add_zero, ↓reduceIte, ne_eq, not_true_eq_false, not_false_eq_true, Int.natCast_one, ↓zg_59_24, e3, ↓mc_59]
      rw [m_manyAt (A := ua A 77 s) (by omega) hR.z hsb (by omega) (by omega), ua_s]
      by_cases q : (trB (many R s) j).2 < many R s j
      · have e : trB (many R s) (j + 1) = ((j : Int), many R s j) := if_pos q
        rw [e]
        simp (implicitDefEqProofs := false) (disch := omega) only [↓rI_s, ↓rV_s, ↓rI_e, ↓rV_e, zc_eq, zc_ne, zc_lt, zc_ge, zc_gt, zc_le, zlt_t, zlt_f, zle_t, zle_f, zeq_t, zeq_f, lz, zadd, zsub, zmul, zneg, zb_e0, zb_e1, boo0, boo1, ua_s, ua_n, ua_ua, up_s, u2_s, u2_f, u2_c, u2_u2, Int.natCast_add, Int.zero_add, Int.add_zero, ↓reduceIte, ne_eq, not_true_eq_false, not_false_eq_true, Int.natCast_one, ↓k_X11_trust_0, ↓k_X11_trust_65, ↓k_X11_trust_80, ↓k_X11_trust_85, zp_59_0, ↓mc_59, ↓zg_59_24]
        rw [m_manyAt (A := ua A 77 s) (by omega) hR.z hsb (by omega) (by omega), ua_s]
      · have e : trB (many R s) (j + 1) = trB (many R s) j := if_neg q
        rw [e]
        simp (implicitDefEqProofs := false) (disch := omega) only [↓rI_s, ↓rV_s, ↓rI_e, ↓rV_e, zc_eq, zc_ne, zc_lt, zc_ge, zc_gt, zc_le, zlt_t, zlt_f, zle_t, zle_f, zeq_t, zeq_f, lz, zadd, zsub, zmul, zneg, zb_e0, zb_e1, boo0, boo1, ua_s, ua_n, ua_ua, up_s, u2_s, u2_f, u2_c, u2_u2, Int.natCast_add, Int.zero_add, Int.add_zero, ↓reduceIte, ne_eq, not_true_eq_false, not_false_eq_true, Int.natCast_one, ↓k_X11_trust_0, ↓k_X11_trust_65, ↓k_X11_trust_80, ↓k_X11_trust_85, zp_59_0, ↓mc_59, ↓zg_59_24]
  · rw [if_neg h1]
    exact mOut.il fr.refl (by simp (implicitDefEqProofs := false) (disch := omega) only [↓rI_s, ↓rV_s, ↓rI_e, ↓rV_e, zc_eq, zc_ne, zc_lt, zc_ge, zc_gt, zc_le, zlt_t, zlt_f, zle_t, zle_f, zeq_t, zeq_f, lz, zadd, zsub, zmul, zneg, zb_e0, zb_e1, boo0, boo1, ua_s, ua_n, ua_ua, up_s, u2_s, u2_f, u2_c, u2_u2, Int.natCast_add, Int.zero_add, Int.add_zero, ↓reduceIte, ne_eq, not_true_eq_false, not_false_eq_true, Int.natCast_one, ↓k_X11_trust_0, ↓mc_59, ↓zp_59_0, s_within, s_within_f, s_isPress, s_isPress_f, s_isWink (show 2 ≤ d by omega) hR, s_isWink_f (show 2 ≤ d by omega) hR, s_isHouse (show 2 ≤ d by omega) hR, s_isHouse_f (show 2 ≤ d by omega) hR, s_may1, s_may0, m_take (show 2 ≤ d by omega)])
theorem C_flies {w p : Int} (hd : 6 ≤ d) (hX : cX R F s I A) (hh : wI w) (hp : wI p) : cOut I A W (q_call q_MT d 125 [.ref 2, .int (zI w), .int (zI p)] (zM I A W)) (if 0 ≤ w ∧ w < rW R then (if 1 ≤ p ∧ p ≤ 9 then 0 else 2) else 1) (flA R F s w p) := by
  obtain ⟨d, rfl⟩ : ∃ e, d = e + 1 := ⟨d - 1, by omega⟩
  obtain ⟨hR, hB, ⟨hV, -⟩, hL⟩ := hX
  rw [cl_X10_flies]
  by_cases h1 : 0 ≤ w ∧ w < rW R
  · by_cases h2 : 1 ≤ p ∧ p ≤ 9
    · rw [if_pos h1, if_pos h2]
      obtain ⟨A', f, e⟩ := c24_flight (p := p) (W := W) (show 3 ≤ d by omega) hR hB hV.1 hL h1.1 h1.2
      refine cOut.ok fi.refl (f.wd rfl) ?_
      simp (implicitDefEqProofs := false) (disch := omega) only [↓rI_s, ↓rV_s, ↓rI_e, ↓rV_e, zc_eq, zc_ne, zc_lt, zc_ge, zc_gt, zc_le, zlt_t, zlt_f, zle_t, zle_f, zeq_t, zeq_f, lz, zadd, zsub, zmul, zneg, zb_e0, zb_e1, boo0, boo1, ua_s, ua_n, ua_ua, up_s, u2_s, u2_f, u2_c, u2_u2, Int.natCast_add, Int.zero_add, Int.add_zero, ↓reduceIte, ne_eq, not_true_eq_false, not_false_eq_true, Int.natCast_one, ↓k_X10_flies_0, ↓mc_2, s_needWink (show 2 ≤ d by omega) hR, s_needWink_f (show 2 ≤ d by omega) hR, s_needCup (show 2 ≤ d by omega) hR, s_needCup_f (show 2 ≤ d by omega) hR, s_needHouse (show 2 ≤ d by omega) hR, s_needHouse_f (show 2 ≤ d by omega) hR, s_needThere, s_needThere_f, s_needPress, s_needPress_f, s_needWhat, s_needWhat_f, s_needWithin, s_needWithin_f, s_need1, s_need0, t0_0, t0_1, ↓zg_2_6, ↓mc_24, e]
    · rw [if_pos h1, if_neg h2]
      exact cOut.il (by simp (implicitDefEqProofs := false) (disch := omega) only [↓rI_s, ↓rV_s, ↓rI_e, ↓rV_e, zc_eq, zc_ne, zc_lt, zc_ge, zc_gt, zc_le, zlt_t, zlt_f, zle_t, zle_f, zeq_t, zeq_f, lz, zadd, zsub, zmul, zneg, zb_e0, zb_e1, boo0, boo1, ua_s, ua_n, ua_ua, up_s, u2_s, u2_f, u2_c, u2_u2, Int.natCast_add, Int.zero_add, Int.add_zero, ↓reduceIte, ne_eq, not_true_eq_false, not_false_eq_true, Int.natCast_one, ↓k_X10_flies_0, ↓mc_2, s_needWink (show 2 ≤ d by omega) hR, s_needWink_f (show 2 ≤ d by omega) hR, s_needCup (show 2 ≤ d by omega) hR, s_needCup_f (show 2 ≤ d by omega) hR, s_needHouse (show 2 ≤ d by omega) hR, s_needHouse_f (show 2 ≤ d by omega) hR, s_needThere, s_needThere_f, s_needPress, s_needPress_f, s_needWhat, s_needWhat_f, s_needWithin, s_needWithin_f, s_need1, s_need0, t0_0, t0_1])
  · rw [if_neg h1]
    exact cOut.ns (by simp (implicitDefEqProofs := false) (disch := omega) only [↓rI_s, ↓rV_s, ↓rI_e, ↓rV_e, zc_eq, zc_ne, zc_lt, zc_ge, zc_gt, zc_le, zlt_t, zlt_f, zle_t, zle_f, zeq_t, zeq_f, lz, zadd, zsub, zmul, zneg, zb_e0, zb_e1, boo0, boo1, ua_s, ua_n, ua_ua, up_s, u2_s, u2_f, u2_c, u2_u2, Int.natCast_add, Int.zero_add, Int.add_zero, ↓reduceIte, ne_eq, not_true_eq_false, not_false_eq_true, Int.natCast_one, ↓k_X10_flies_0, ↓mc_2, s_needWink (show 2 ≤ d by omega) hR, s_needWink_f (show 2 ≤ d by omega) hR, s_needCup (show 2 ≤ d by omega) hR, s_needCup_f (show 2 ≤ d by omega) hR, s_needHouse (show 2 ≤ d by omega) hR, s_needHouse_f (show 2 ≤ d by omega) hR, s_needThere, s_needThere_f, s_needPress, s_needPress_f, s_needWhat, s_needWhat_f, s_needWithin, s_needWithin_f, s_need1, s_need0, t0_0, t0_1])
theorem M_flies {w p : Int} (hd : 8 ≤ d) (hX : mX R F s I A) (hh : wI w) (hp : wI p) : mOut I A W (q_call q_MT d 236 [.ref 59, .int (zI w), .int (zI p)] (zM I A W)) (if 0 ≤ w ∧ w < rW R then (if 1 ≤ p ∧ p ≤ 9 then 0 else 2) else 1) (flA R F s w p) 2 := by
  obtain ⟨d, rfl⟩ : ∃ e, d = e + 1 := ⟨d - 1, by omega⟩
  obtain ⟨hR, hs, ⟨hV, -⟩, hL⟩ := hX
  rw [cl_X11_flies]
  by_cases h1 : 0 ≤ w ∧ w < rW R
  · by_cases h2 : 1 ≤ p ∧ p ≤ 9
    · rw [if_pos h1, if_pos h2]
      obtain ⟨A', f, e⟩ := m_fliesAsItLies (A := ua A 77 s) (p := p) (W := W) (show 6 ≤ d by omega) hR.z hL.z (hV.1.b hR.1) h1.1 h1.2
      rw [ua_s] at e
      refine mOut.ok (I1 := u2 I 59 0 0) (A1 := A') (fi.refl.f rfl) ((fr.refl.a rfl).tr (f.wd rfl)) u2_s ?_
      simp (implicitDefEqProofs := false) (disch := omega) only [↓rI_s, ↓rV_s, ↓rI_e, ↓rV_e, zc_eq, zc_ne, zc_lt, zc_ge, zc_gt, zc_le, zlt_t, zlt_f, zle_t, zle_f, zeq_t, zeq_f, lz, zadd, zsub, zmul, zneg, zb_e0, zb_e1, boo0, boo1, ua_s, ua_n, ua_ua, up_s, u2_s, u2_f, u2_c, u2_u2, Int.natCast_add, Int.zero_add, Int.add_zero, ↓reduceIte, ne_eq, not_true_eq_false, not_false_eq_true, Int.natCast_one, ↓k_X11_flies_0, ↓k_X11_flies_27, zp_59_0, ↓mc_59, ↓mc_59, ↓zp_59_0, s_within, s_within_f, s_isPress, s_isPress_f, s_isWink (show 2 ≤ d by omega) hR, s_isWink_f (show 2 ≤ d by omega) hR, s_isHouse (show 2 ≤ d by omega) hR, s_isHouse_f (show 2 ≤ d by omega) hR, s_may1, s_may0, m_take (show 2 ≤ d by omega), hs, e]
    · rw [if_pos h1, if_neg h2]
      exact mOut.il fr.refl (by simp (implicitDefEqProofs := false) (disch := omega) only [↓rI_s, ↓rV_s, ↓rI_e, ↓rV_e, zc_eq, zc_ne, zc_lt, zc_ge, zc_gt, zc_le, zlt_t, zlt_f, zle_t, zle_f, zeq_t, zeq_f, lz, zadd, zsub, zmul, zneg, zb_e0, zb_e1, boo0, boo1, ua_s, ua_n, ua_ua, up_s, u2_s, u2_f, u2_c, u2_u2, Int.natCast_add, Int.zero_add, Int.add_zero, ↓reduceIte, ne_eq, not_true_eq_false, not_false_eq_true, Int.natCast_one, ↓k_X11_flies_0, ↓k_X11_flies_27, zp_59_0, ↓mc_59, ↓mc_59, ↓zp_59_0, s_within, s_within_f, s_isPress, s_isPress_f, s_isWink (show 2 ≤ d by omega) hR, s_isWink_f (show 2 ≤ d by omega) hR, s_isHouse (show 2 ≤ d by omega) hR, s_isHouse_f (show 2 ≤ d by omega) hR, s_may1, s_may0, m_take (show 2 ≤ d by omega)])
  · rw [if_neg h1]
    exact mOut.ns (by simp (implicitDefEqProofs := false) (disch := omega) only [↓rI_s, ↓rV_s, ↓rI_e, ↓rV_e, zc_eq, zc_ne, zc_lt, zc_ge, zc_gt, zc_le, zlt_t, zlt_f, zle_t, zle_f, zeq_t, zeq_f, lz, zadd, zsub, zmul, zneg, zb_e0, zb_e1, boo0, boo1, ua_s, ua_n, ua_ua, up_s, u2_s, u2_f, u2_c, u2_u2, Int.natCast_add, Int.zero_add, Int.add_zero, ↓reduceIte, ne_eq, not_true_eq_false, not_false_eq_true, Int.natCast_one, ↓k_X11_flies_0, ↓k_X11_flies_27, zp_59_0, ↓mc_59, ↓mc_59, ↓zp_59_0, s_within, s_within_f, s_isPress, s_isPress_f, s_isWink (show 2 ≤ d by omega) hR, s_isWink_f (show 2 ≤ d by omega) hR, s_isHouse (show 2 ≤ d by omega) hR, s_isHouse_f (show 2 ≤ d by omega) hR, s_may1, s_may0, m_take (show 2 ≤ d by omega)])
theorem C_down {w p h : Int} (hd : 6 ≤ d) (hX : cX R F s I A) (hh : wI w) (hp : wI p) (hq : wI h) : cOut I A W (q_call q_MT d 127 [.ref 2, .int (zI w), .int (zI p), .int (zI h)] (zM I A W)) (if 0 ≤ w ∧ w < rW R then (if (1 ≤ p ∧ p ≤ 9) ∧ 0 ≤ h ∧ h ≤ 1 then 0 else 2) else 1) (dwn R F s w p h) := by
  obtain ⟨d, rfl⟩ : ∃ e, d = e + 1 := ⟨d - 1, by omega⟩
  obtain ⟨hR, hB, ⟨hV, -⟩, hL⟩ := hX
  rw [cl_X10_down]
  by_cases h1 : 0 ≤ w ∧ w < rW R
  · by_cases h2 : 1 ≤ p ∧ p ≤ 9
    · by_cases h3 : 0 ≤ h ∧ h ≤ 1
      · rw [if_pos h1, if_pos ⟨h2, h3⟩]
        by_cases q : free R s w
        · obtain ⟨A', f, e⟩ := c24_landing (p := p) (h := h) (W := W) (show 4 ≤ d by omega) hR hB hV.1 hL h1.1 h1.2 q.1 (by omega)
          refine cOut.ok fi.refl (f.wd rfl) ?_
          simp (implicitDefEqProofs := false) (disch := omega) only [↓rI_s, ↓rV_s, ↓rI_e, ↓rV_e, zc_eq, zc_ne, zc_lt, zc_ge, zc_gt, zc_le, zlt_t, zlt_f, zle_t, zle_f, zeq_t, zeq_f, lz, zadd, zsub, zmul, zneg, zb_e0, zb_e1, boo0, boo1, ua_s, ua_n, ua_ua, up_s, u2_s, u2_f, u2_c, u2_u2, Int.natCast_add, Int.zero_add, Int.add_zero, ↓reduceIte, ne_eq, not_true_eq_false, not_false_eq_true, Int.natCast_one, ↓k_X10_down_0, ↓mc_2, s_needWink (show 2 ≤ d by omega) hR, s_needWink_f (show 2 ≤ d by omega) hR, s_needCup (show 2 ≤ d by omega) hR, s_needCup_f (show 2 ≤ d by omega) hR, s_needHouse (show 2 ≤ d by omega) hR, s_needHouse_f (show 2 ≤ d by omega) hR, s_needThere, s_needThere_f, s_needPress, s_needPress_f, s_needWhat, s_needWhat_f, s_needWithin, s_needWithin_f, s_need1, s_need0, t0_0, t0_1, ↓zg_2_6, ↓mc_24]
          rw [c24_isFree (by omega) hR hB hV.1 h1.1 h1.2, zb_t q]
          simp (implicitDefEqProofs := false) (disch := omega) only [↓rI_s, ↓rV_s, ↓rI_e, ↓rV_e, zc_eq, zc_ne, zc_lt, zc_ge, zc_gt, zc_le, zlt_t, zlt_f, zle_t, zle_f, zeq_t, zeq_f, lz, zadd, zsub, zmul, zneg, zb_e0, zb_e1, boo0, boo1, ua_s, ua_n, ua_ua, up_s, u2_s, u2_f, u2_c, u2_u2, Int.natCast_add, Int.zero_add, Int.add_zero, ↓reduceIte, ne_eq, not_true_eq_false, not_false_eq_true, Int.natCast_one, ↓zg_2_6, ↓mc_24, e, ↓k_X10_down_42]
          rw [dwn, if_pos q]
        · refine cOut.ok fi.refl fr.refl ?_
          simp (implicitDefEqProofs := false) (disch := omega) only [↓rI_s, ↓rV_s, ↓rI_e, ↓rV_e, zc_eq, zc_ne, zc_lt, zc_ge, zc_gt, zc_le, zlt_t, zlt_f, zle_t, zle_f, zeq_t, zeq_f, lz, zadd, zsub, zmul, zneg, zb_e0, zb_e1, boo0, boo1, ua_s, ua_n, ua_ua, up_s, u2_s, u2_f, u2_c, u2_u2, Int.natCast_add, Int.zero_add, Int.add_zero, ↓reduceIte, ne_eq, not_true_eq_false, not_false_eq_true, Int.natCast_one, ↓k_X10_down_0, ↓mc_2, s_needWink (show 2 ≤ d by omega) hR, s_needWink_f (show 2 ≤ d by omega) hR, s_needCup (show 2 ≤ d by omega) hR, s_needCup_f (show 2 ≤ d by omega) hR, s_needHouse (show 2 ≤ d by omega) hR, s_needHouse_f (show 2 ≤ d by omega) hR, s_needThere, s_needThere_f, s_needPress, s_needPress_f, s_needWhat, s_needWhat_f, s_needWithin, s_needWithin_f, s_need1, s_need0, t0_0, t0_1, ↓zg_2_6, ↓mc_24]
          rw [c24_isFree (by omega) hR hB hV.1 h1.1 h1.2, zb_f q]
          simp (implicitDefEqProofs := false) (disch := omega) only [↓rI_s, ↓rV_s, ↓rI_e, ↓rV_e, zc_eq, zc_ne, zc_lt, zc_ge, zc_gt, zc_le, zlt_t, zlt_f, zle_t, zle_f, zeq_t, zeq_f, lz, zadd, zsub, zmul, zneg, zb_e0, zb_e1, boo0, boo1, ua_s, ua_n, ua_ua, up_s, u2_s, u2_f, u2_c, u2_u2, Int.natCast_add, Int.zero_add, Int.add_zero, ↓reduceIte, ne_eq, not_true_eq_false, not_false_eq_true, Int.natCast_one, ↓k_X10_down_42]
          rw [dwn, if_neg q]
      · rw [if_pos h1, if_neg (fun q => h3 q.2)]
        exact cOut.il (by simp (implicitDefEqProofs := false) (disch := omega) only [↓rI_s, ↓rV_s, ↓rI_e, ↓rV_e, zc_eq, zc_ne, zc_lt, zc_ge, zc_gt, zc_le, zlt_t, zlt_f, zle_t, zle_f, zeq_t, zeq_f, lz, zadd, zsub, zmul, zneg, zb_e0, zb_e1, boo0, boo1, ua_s, ua_n, ua_ua, up_s, u2_s, u2_f, u2_c, u2_u2, Int.natCast_add, Int.zero_add, Int.add_zero, ↓reduceIte, ne_eq, not_true_eq_false, not_false_eq_true, Int.natCast_one, ↓k_X10_down_0, ↓mc_2, s_needWink (show 2 ≤ d by omega) hR, s_needWink_f (show 2 ≤ d by omega) hR, s_needCup (show 2 ≤ d by omega) hR, s_needCup_f (show 2 ≤ d by omega) hR, s_needHouse (show 2 ≤ d by omega) hR, s_needHouse_f (show 2 ≤ d by omega) hR, s_needThere, s_needThere_f, s_needPress, s_needPress_f, s_needWhat, s_needWhat_f, s_needWithin, s_needWithin_f, s_need1, s_need0, t0_0, t0_1])
    · rw [if_pos h1, if_neg (fun q => h2 q.1)]
      exact cOut.il (by simp (implicitDefEqProofs := false) (disch := omega) only [↓rI_s, ↓rV_s, ↓rI_e, ↓rV_e, zc_eq, zc_ne, zc_lt, zc_ge, zc_gt, zc_le, zlt_t, zlt_f, zle_t, zle_f, zeq_t, zeq_f, lz, zadd, zsub, zmul, zneg, zb_e0, zb_e1, boo0, boo1, ua_s, ua_n, ua_ua, up_s, u2_s, u2_f, u2_c, u2_u2, Int.natCast_add, Int.zero_add, Int.add_zero, ↓reduceIte, ne_eq, not_true_eq_false, not_false_eq_true, Int.natCast_one, ↓k_X10_down_0, ↓mc_2, s_needWink (show 2 ≤ d by omega) hR, s_needWink_f (show 2 ≤ d by omega) hR, s_needCup (show 2 ≤ d by omega) hR, s_needCup_f (show 2 ≤ d by omega) hR, s_needHouse (show 2 ≤ d by omega) hR, s_needHouse_f (show 2 ≤ d by omega) hR, s_needThere, s_needThere_f, s_needPress, s_needPress_f, s_needWhat, s_needWhat_f, s_needWithin, s_needWithin_f, s_need1, s_need0, t0_0, t0_1])
  · rw [if_neg h1]
    exact cOut.ns (by simp (implicitDefEqProofs := false) (disch := omega) only [↓rI_s, ↓rV_s, ↓rI_e, ↓rV_e, zc_eq, zc_ne, zc_lt, zc_ge, zc_gt, zc_le, zlt_t, zlt_f, zle_t, zle_f, zeq_t, zeq_f, lz, zadd, zsub, zmul, zneg, zb_e0, zb_e1, boo0, boo1, ua_s, ua_n, ua_ua, up_s, u2_s, u2_f, u2_c, u2_u2, Int.natCast_add, Int.zero_add, Int.add_zero, ↓reduceIte, ne_eq, not_true_eq_false, not_false_eq_true, Int.natCast_one, ↓k_X10_down_0, ↓mc_2, s_needWink (show 2 ≤ d by omega) hR, s_needWink_f (show 2 ≤ d by omega) hR, s_needCup (show 2 ≤ d by omega) hR, s_needCup_f (show 2 ≤ d by omega) hR, s_needHouse (show 2 ≤ d by omega) hR, s_needHouse_f (show 2 ≤ d by omega) hR, s_needThere, s_needThere_f, s_needPress, s_needPress_f, s_needWhat, s_needWhat_f, s_needWithin, s_needWithin_f, s_need1, s_need0, t0_0, t0_1])
theorem m_downOf {w p h : Int} (hd : 8 ≤ d) (hY : mY R F s I A) (h0 : 0 ≤ w) (h1 : w < rW R) (hh : h = 0 ∨ h = 1) : ∃ A', fr [72, 73] A A' ∧ q_call q_MT d 238 [.ref 59, .int (zI w), .int (zI p), .int (zI h)] (zM I A W) = some (.inl (some (.int (zI (dwn R F s w p h)))), zM I A' W) := by
  obtain ⟨d, rfl⟩ : ∃ e, d = e + 1 := ⟨d - 1, by omega⟩
  obtain ⟨hR, rfl, ⟨hV, -⟩, hL⟩ := hY
  rw [cl_X11_downOf]
  by_cases q : free R (A 77) w
  · obtain ⟨A', f, e⟩ := m_comesTo (p := p) (h := h) (W := W) (show 7 ≤ d by omega) hR hL (hV.1.b hR.1) h0 h1 hh
    refine ⟨A', f, ?_⟩
    simp (implicitDefEqProofs := false) (disch := omega) only [↓rI_s, ↓rV_s, ↓rI_e, ↓rV_e, zc_eq, zc_ne, zc_lt, zc_ge, zc_gt, zc_le, zlt_t, zlt_f, zle_t, zle_f, zeq_t, zeq_f, lz, zadd, zsub, zmul, zneg, zb_e0, zb_e1, boo0, boo1, ua_s, ua_n, ua_ua, up_s, u2_s, u2_f, u2_c, u2_u2, Int.natCast_add, Int.zero_add, Int.add_zero, ↓reduceIte, ne_eq, not_true_eq_false, not_false_eq_true, Int.natCast_one, ↓k_X11_downOf_0, ↓k_X11_downOf_20, ↓mc_59]
    rw [m_canFlick (by omega) hR (hV.1.b hR.1) h0 h1, zb_t q]
    simp (implicitDefEqProofs := false) (disch := omega) only [↓rI_s, ↓rV_s, ↓rI_e, ↓rV_e, zc_eq, zc_ne, zc_lt, zc_ge, zc_gt, zc_le, zlt_t, zlt_f, zle_t, zle_f, zeq_t, zeq_f, lz, zadd, zsub, zmul, zneg, zb_e0, zb_e1, boo0, boo1, ua_s, ua_n, ua_ua, up_s, u2_s, u2_f, u2_c, u2_u2, Int.natCast_add, Int.zero_add, Int.add_zero, ↓reduceIte, ne_eq, not_true_eq_false, not_false_eq_true, Int.natCast_one, ↓k_X11_downOf_0, ↓k_X11_downOf_20, ↓mc_59, e]
    rw [dwn, if_pos q]
  · refine ⟨A, fr.refl, ?_⟩
    simp (implicitDefEqProofs := false) (disch := omega) only [↓rI_s, ↓rV_s, ↓rI_e, ↓rV_e, zc_eq, zc_ne, zc_lt, zc_ge, zc_gt, zc_le, zlt_t, zlt_f, zle_t, zle_f, zeq_t, zeq_f, lz, zadd, zsub, zmul, zneg, zb_e0, zb_e1, boo0, boo1, ua_s, ua_n, ua_ua, up_s, u2_s, u2_f, u2_c, u2_u2, Int.natCast_add, Int.zero_add, Int.add_zero, ↓reduceIte, ne_eq, not_true_eq_false, not_false_eq_true, Int.natCast_one, ↓k_X11_downOf_0, ↓k_X11_downOf_20, ↓mc_59]
    rw [m_canFlick (by omega) hR (hV.1.b hR.1) h0 h1, zb_f q]
    simp (implicitDefEqProofs := false) (disch := omega) only [↓rI_s, ↓rV_s, ↓rI_e, ↓rV_e, zc_eq, zc_ne, zc_lt, zc_ge, zc_gt, zc_le, zlt_t, zlt_f, zle_t, zle_f, zeq_t, zeq_f, lz, zadd, zsub, zmul, zneg, zb_e0, zb_e1, boo0, boo1, ua_s, ua_n, ua_ua, up_s, u2_s, u2_f, u2_c, u2_u2, Int.natCast_add, Int.zero_add, Int.add_zero, ↓reduceIte, ne_eq, not_true_eq_false, not_false_eq_true, Int.natCast_one, ↓k_X11_downOf_0, ↓k_X11_downOf_20, ↓mc_59]
    rw [dwn, if_neg q]
theorem M_down {w p h : Int} (hd : 10 ≤ d) (hX : mX R F s I A) (hh : wI w) (hp : wI p) (hq : wI h) : mOut I A W (q_call q_MT d 240 [.ref 59, .int (zI w), .int (zI p), .int (zI h)] (zM I A W)) (if 0 ≤ w ∧ w < rW R then (if (1 ≤ p ∧ p ≤ 9) ∧ 0 ≤ h ∧ h ≤ 1 then 0 else 2) else 1) (dwn R F s w p h) 2 := by
  obtain ⟨d, rfl⟩ : ∃ e, d = e + 1 := ⟨d - 1, by omega⟩
  have hY := hX.y
  obtain ⟨hR, hs, ⟨hV, -⟩, hL⟩ := hX
  rw [cl_X11_down]
  by_cases h1 : 0 ≤ w ∧ w < rW R
  · by_cases h2 : 1 ≤ p ∧ p ≤ 9
    · by_cases h3 : 0 ≤ h ∧ h ≤ 1
      · rw [if_pos h1, if_pos ⟨h2, h3⟩]
        obtain ⟨A', f, e⟩ := m_downOf (p := p) (h := h) (W := W) (show 8 ≤ d by omega) hY h1.1 h1.2 (by omega)
        refine mOut.ok (I1 := u2 I 59 0 0) (A1 := A') (fi.refl.f rfl) ((fr.refl.a rfl).tr (f.wd rfl)) u2_s ?_
        simp (implicitDefEqProofs := false) (disch := omega) only [↓rI_s, ↓rV_s, ↓rI_e, ↓rV_e, zc_eq, zc_ne, zc_lt, zc_ge, zc_gt, zc_le, zlt_t, zlt_f, zle_t, zle_f, zeq_t, zeq_f, lz, zadd, zsub, zmul, zneg, zb_e0, zb_e1, boo0, boo1, ua_s, ua_n, ua_ua, up_s, u2_s, u2_f, u2_c, u2_u2, Int.natCast_add, Int.zero_add, Int.add_zero, ↓reduceIte, ne_eq, not_true_eq_false, not_false_eq_true, Int.natCast_one, ↓k_X11_down_0, ↓k_X11_down_35, ↓k_X11_down_36, ↓k_X11_down_44, zp_59_0, ↓mc_59, ↓mc_59, ↓zp_59_0, s_within, s_within_f, s_isPress, s_isPress_f, s_isWink (show 2 ≤ d by omega) hR, s_isWink_f (show 2 ≤ d by omega) hR, s_isHouse (show 2 ≤ d by omega) hR, s_isHouse_f (show 2 ≤ d by omega) hR, s_may1, s_may0, m_take (show 2 ≤ d by omega), hs, e]
      · rw [if_pos h1, if_neg (fun q => h3 q.2)]
        exact mOut.il fr.refl (by simp (implicitDefEqProofs := false) (disch := omega) only [↓rI_s, ↓rV_s, ↓rI_e, ↓rV_e, zc_eq, zc_ne, zc_lt, zc_ge, zc_gt, zc_le, zlt_t, zlt_f, zle_t, zle_f, zeq_t, zeq_f, lz, zadd, zsub, zmul, zneg, zb_e0, zb_e1, boo0, boo1, ua_s, ua_n, ua_ua, up_s, u2_s, u2_f, u2_c, u2_u2, Int.natCast_add, Int.zero_add, Int.add_zero, ↓reduceIte, ne_eq, not_true_eq_false, not_false_eq_true, Int.natCast_one, ↓k_X11_down_0, ↓k_X11_down_35, ↓k_X11_down_36, ↓k_X11_down_44, zp_59_0, ↓mc_59, ↓mc_59, ↓zp_59_0, s_within, s_within_f, s_isPress, s_isPress_f, s_isWink (show 2 ≤ d by omega) hR, s_isWink_f (show 2 ≤ d by omega) hR, s_isHouse (show 2 ≤ d by omega) hR, s_isHouse_f (show 2 ≤ d by omega) hR, s_may1, s_may0, m_take (show 2 ≤ d by omega)])
    · rw [if_pos h1, if_neg (fun q => h2 q.1)]
      exact mOut.il fr.refl (by simp (implicitDefEqProofs := false) (disch := omega) only [↓rI_s, ↓rV_s, ↓rI_e, ↓rV_e, zc_eq, zc_ne, zc_lt, zc_ge, zc_gt, zc_le, zlt_t, zlt_f, zle_t, zle_f, zeq_t, zeq_f, lz, zadd, zsub, zmul, zneg, zb_e0, zb_e1, boo0, boo1, ua_s, ua_n, ua_ua, up_s, u2_s, u2_f, u2_c, u2_u2, Int.natCast_add, Int.zero_add, Int.add_zero, ↓reduceIte, ne_eq, not_true_eq_false, not_false_eq_true, Int.natCast_one, ↓k_X11_down_0, ↓k_X11_down_35, ↓k_X11_down_36, ↓k_X11_down_44, zp_59_0, ↓mc_59, ↓mc_59, ↓zp_59_0, s_within, s_within_f, s_isPress, s_isPress_f, s_isWink (show 2 ≤ d by omega) hR, s_isWink_f (show 2 ≤ d by omega) hR, s_isHouse (show 2 ≤ d by omega) hR, s_isHouse_f (show 2 ≤ d by omega) hR, s_may1, s_may0, m_take (show 2 ≤ d by omega)])
  · rw [if_neg h1]
    exact mOut.ns (by simp (implicitDefEqProofs := false) (disch := omega) only [↓rI_s, ↓rV_s, ↓rI_e, ↓rV_e, zc_eq, zc_ne, zc_lt, zc_ge, zc_gt, zc_le, zlt_t, zlt_f, zle_t, zle_f, zeq_t, zeq_f, lz, zadd, zsub, zmul, zneg, zb_e0, zb_e1, boo0, boo1, ua_s, ua_n, ua_ua, up_s, u2_s, u2_f, u2_c, u2_u2, Int.natCast_add, Int.zero_add, Int.add_zero, ↓reduceIte, ne_eq, not_true_eq_false, not_false_eq_true, Int.natCast_one, ↓k_X11_down_0, ↓k_X11_down_35, ↓k_X11_down_36, ↓k_X11_down_44, zp_59_0, ↓mc_59, ↓mc_59, ↓zp_59_0, s_within, s_within_f, s_isPress, s_isPress_f, s_isWink (show 2 ≤ d by omega) hR, s_isWink_f (show 2 ≤ d by omega) hR, s_isHouse (show 2 ≤ d by omega) hR, s_isHouse_f (show 2 ≤ d by omega) hR, s_may1, s_may0, m_take (show 2 ≤ d by omega)])
theorem m_cupOf {w p h : Int} (hd : 9 ≤ d) (hY : mY R F s I A) (h0 : 0 ≤ w) (h1 : w < rW R) (hh : h = 0 ∨ h = 1) : ∃ A', fr [72, 73] A A' ∧ q_call q_MT d 239 [.ref 59, .int (zI w), .int (zI p), .int (zI h)] (zM I A W) = some (.inl (some (.int (zI (chit R F s w p h)))), zM I A' W) := by
  obtain ⟨d, rfl⟩ : ∃ e, d = e + 1 := ⟨d - 1, by omega⟩
  obtain ⟨A', f, e⟩ := m_downOf (p := p) (h := h) (W := W) (show 8 ≤ d by omega) hY h0 h1 hh
  have e7 : A' 77 = s := (f 77 rfl).trans hY.2.1
  obtain ⟨hR, -, ⟨hV, -⟩, hL⟩ := hY
  have hw := hR.1.2.1
  have hf := hR.1.2.2.2.2.1
  have hb := hV.1.b hR.1 w h0 h1
  have db : -3 ≤ dwn R F s w p h ∧ dwn R F s w p h < 30 := by
    have := dn_c (s := s) (w := w) (p := p) (h := h) hR.1 hL.w
    unfold dwn; split <;> omega
  refine ⟨A', f, ?_⟩
  rw [cl_X11_cupOf]
  unfold chit
  by_cases q1 : dwn R F s w p h < 0
  · rw [if_pos (.inl q1)]
    simp (implicitDefEqProofs := false) (disch := omega) only [↓rI_s, ↓rV_s, ↓rI_e, ↓rV_e, zc_eq, zc_ne, zc_lt, zc_ge, zc_gt, zc_le, zlt_t, zlt_f, zle_t, zle_f, zeq_t, zeq_f, lz, zadd, zsub, zmul, zneg, zb_e0, zb_e1, boo0, boo1, ua_s, ua_n, ua_ua, up_s, u2_s, u2_f, u2_c, u2_u2, Int.natCast_add, Int.zero_add, Int.add_zero, ↓reduceIte, ne_eq, not_true_eq_false, not_false_eq_true, Int.natCast_one, ↓k_X11_cupOf_0, ↓k_X11_cupOf_27, ↓k_X11_cupOf_37, ↓mc_59, ↓zg_59_43, zl_77, zs_77, ↓zn_77, e]
  · by_cases q2 : dwn R F s w p h = s w
    · rw [if_pos (.inr q2)]
      simp (implicitDefEqProofs := false) (disch := omega) only [↓rI_s, ↓rV_s, ↓rI_e, ↓rV_e, zc_eq, zc_ne, zc_lt, zc_ge, zc_gt, zc_le, zlt_t, zlt_f, zle_t, zle_f, zeq_t, zeq_f, lz, zadd, zsub, zmul, zneg, zb_e0, zb_e1, boo0, boo1, ua_s, ua_n, ua_ua, up_s, u2_s, u2_f, u2_c, u2_u2, Int.natCast_add, Int.zero_add, Int.add_zero, ↓reduceIte, ne_eq, not_true_eq_false, not_false_eq_true, Int.natCast_one, ↓k_X11_cupOf_0, ↓k_X11_cupOf_27, ↓k_X11_cupOf_37, ↓mc_59, ↓zg_59_43, zl_77, zs_77, ↓zn_77, e, e7]
    · rw [if_neg (by omega)]
      simp (implicitDefEqProofs := false) (disch := omega) only [↓rI_s, ↓rV_s, ↓rI_e, ↓rV_e, zc_eq, zc_ne, zc_lt, zc_ge, zc_gt, zc_le, zlt_t, zlt_f, zle_t, zle_f, zeq_t, zeq_f, lz, zadd, zsub, zmul, zneg, zb_e0, zb_e1, boo0, boo1, ua_s, ua_n, ua_ua, up_s, u2_s, u2_f, u2_c, u2_u2, Int.natCast_add, Int.zero_add, Int.add_zero, ↓reduceIte, ne_eq, not_true_eq_false, not_false_eq_true, Int.natCast_one, ↓k_X11_cupOf_0, ↓k_X11_cupOf_27, ↓k_X11_cupOf_37, ↓mc_59, ↓zg_59_43, zl_77, zs_77, ↓zn_77, e, e7]
      rw [m_cupAt (A := A') (by omega) (hR.fr f rfl) (by omega)]
theorem c_cupHit {w p h : Int} (hd : 4 ≤ d) (hX : cX R F s I A) (h0 : 0 ≤ w) (h1 : w < rW R) (hh : h = 0 ∨ h = 1) : ∃ A', fr [22, 23] A A' ∧ q_call q_MT d 1 [.ref 45, .int (zI w), .int (zI p), .int (zI h)] (zM I A W) = some (.inl (some (.int (zI (chit R F s w p h)))), zM I A' W) := by
  obtain ⟨d, rfl⟩ : ∃ e, d = e + 1 := ⟨d - 1, by omega⟩
  obtain ⟨hR, hB, ⟨hV, -⟩, hL⟩ := hX
  have hw := hR.1.2.1
  have hf := hR.1.2.2.2.2.1
  have hb := hV.1 w h0 h1
  have b1 := hB.1 w h0 h1
  have hF := flA_b (R := R) hL.w s w p
  rw [cl_X0_cupHit]
  by_cases q : free R s w
  · rw [(enc_f hV.1 h0 h1).1 q.1] at b1
    obtain ⟨A', f, e⟩ := c24_flight (p := p) (W := W) (show 3 ≤ d by omega) hR hB hV.1 hL h0 h1
    have b1' : A' 25 w = s w := by rw [f 25 rfl]; exact b1
    have hR' := hR.fr f rfl
    refine ⟨A', f, ?_⟩
    simp (implicitDefEqProofs := false) (disch := omega) only [↓rI_s, ↓rV_s, ↓rI_e, ↓rV_e, zc_eq, zc_ne, zc_lt, zc_ge, zc_gt, zc_le, zlt_t, zlt_f, zle_t, zle_f, zeq_t, zeq_f, lz, zadd, zsub, zmul, zneg, zb_e0, zb_e1, boo0, boo1, ua_s, ua_n, ua_ua, up_s, u2_s, u2_f, u2_c, u2_u2, Int.natCast_add, Int.zero_add, Int.add_zero, ↓reduceIte, ne_eq, not_true_eq_false, not_false_eq_true, Int.natCast_one, ↓k_X0_cupHit_0, ↓zg_45_1, ↓mc_24]
    rw [c24_isFree (by omega) hR hB hV.1 h0 h1, zb_t q]
    have q0 := q.1
    have hd2 : dwn R F s w p h = dn R F s w p h := if_pos q
    by_cases z : flA R F s w p = 0
    · have e4 : dn R F s w p h = s w := by
        unfold dn; rw [z]
        have e3 : (if h = 0 then (0 : Int) else -0) = 0 := by split <;> rfl
        rw [e3, if_neg (by omega)]; omega
      rw [z] at e
      simp (implicitDefEqProofs := false) (disch := omega) only [↓rI_s, ↓rV_s, ↓rI_e, ↓rV_e, zc_eq, zc_ne, zc_lt, zc_ge, zc_gt, zc_le, zlt_t, zlt_f, zle_t, zle_f, zeq_t, zeq_f, lz, zadd, zsub, zmul, zneg, zb_e0, zb_e1, boo0, boo1, ua_s, ua_n, ua_ua, up_s, u2_s, u2_f, u2_c, u2_u2, Int.natCast_add, Int.zero_add, Int.add_zero, ↓reduceIte, ne_eq, not_true_eq_false, not_false_eq_true, Int.natCast_one, ↓zg_45_1, ↓mc_24, e, ↓k_X0_cupHit_24]
      rw [chit, hd2, e4, if_pos (.inr rfl)]
    · have key : ∀ x : Int, x = s w + (if h = 0 then flA R F s w p else -flA R F s w p) → cupAt R x = chit R F s w p h := by
        intro x hx
        have hne : x ≠ s w := by rw [hx]; split <;> omega
        unfold chit
        rw [hd2]
        have hdn : dn R F s w p h = if x < 0 ∨ rF R ≤ x then -2 else x := by unfold dn; rw [← hx]
        by_cases o : x < 0 ∨ rF R ≤ x
        · rw [if_pos o] at hdn
          rw [hdn, if_pos (.inl (by decide))]; exact cupAt_off hR.1 o
        · rw [if_neg o] at hdn
          rw [hdn, if_neg (by omega)]
      rcases hh with rfl | rfl
      · simp (implicitDefEqProofs := false) (disch := omega) only [↓rI_s, ↓rV_s, ↓rI_e, ↓rV_e, zc_eq, zc_ne, zc_lt, zc_ge, zc_gt, zc_le, zlt_t, zlt_f, zle_t, zle_f, zeq_t, zeq_f, lz, zadd, zsub, zmul, zneg, zb_e0, zb_e1, boo0, boo1, ua_s, ua_n, ua_ua, up_s, u2_s, u2_f, u2_c, u2_u2, Int.natCast_add, Int.zero_add, Int.add_zero, ↓reduceIte, ne_eq, not_true_eq_false, not_false_eq_true, Int.natCast_one, ↓zg_45_1, ↓mc_24, e, ↓k_X0_cupHit_24, ↓zg_45_0, ↓zg_24_2, zl_25, b1', ↓k_X0_cupHit_68, ↓mc_5]
        rw [c_cupAt (by omega) hR' (by omega), key (s w + flA R F s w p) rfl]
      · simp (implicitDefEqProofs := false) (disch := omega) only [↓rI_s, ↓rV_s, ↓rI_e, ↓rV_e, zc_eq, zc_ne, zc_lt, zc_ge, zc_gt, zc_le, zlt_t, zlt_f, zle_t, zle_f, zeq_t, zeq_f, lz, zadd, zsub, zmul, zneg, zb_e0, zb_e1, boo0, boo1, ua_s, ua_n, ua_ua, up_s, u2_s, u2_f, u2_c, u2_u2, Int.natCast_add, Int.zero_add, Int.add_zero, ↓reduceIte, ne_eq, not_true_eq_false, not_false_eq_true, Int.natCast_one, ↓zg_45_1, ↓mc_24, e, ↓k_X0_cupHit_24, ↓zg_45_0, ↓zg_24_2, zl_25, b1', ↓k_X0_cupHit_68, ↓mc_5]
        rw [c_cupAt (by omega) hR' (by omega), key (s w - flA R F s w p) Int.sub_eq_add_neg]
  · refine ⟨A, fr.refl, ?_⟩
    simp (implicitDefEqProofs := false) (disch := omega) only [↓rI_s, ↓rV_s, ↓rI_e, ↓rV_e, zc_eq, zc_ne, zc_lt, zc_ge, zc_gt, zc_le, zlt_t, zlt_f, zle_t, zle_f, zeq_t, zeq_f, lz, zadd, zsub, zmul, zneg, zb_e0, zb_e1, boo0, boo1, ua_s, ua_n, ua_ua, up_s, u2_s, u2_f, u2_c, u2_u2, Int.natCast_add, Int.zero_add, Int.add_zero, ↓reduceIte, ne_eq, not_true_eq_false, not_false_eq_true, Int.natCast_one, ↓k_X0_cupHit_0, ↓zg_45_1, ↓mc_24]
    rw [c24_isFree (by omega) hR hB hV.1 h0 h1, zb_f q]
    simp (implicitDefEqProofs := false) (disch := omega) only [↓rI_s, ↓rV_s, ↓rI_e, ↓rV_e, zc_eq, zc_ne, zc_lt, zc_ge, zc_gt, zc_le, zlt_t, zlt_f, zle_t, zle_f, zeq_t, zeq_f, lz, zadd, zsub, zmul, zneg, zb_e0, zb_e1, boo0, boo1, ua_s, ua_n, ua_ua, up_s, u2_s, u2_f, u2_c, u2_u2, Int.natCast_add, Int.zero_add, Int.add_zero, ↓reduceIte, ne_eq, not_true_eq_false, not_false_eq_true, Int.natCast_one, ↓k_X0_cupHit_24]
    rw [chit, dwn, if_neg q, if_pos (.inl (by decide))]
theorem c_paidFor {w p h : Int} (hd : 5 ≤ d) (hX : cX R F s I A) (h0 : 0 ≤ w) (h1 : w < rW R) (hh : h = 0 ∨ h = 1) : ∃ A', fr [22, 23] A A' ∧ q_call q_MT d 2 [.ref 45, .int (zI w), .int (zI p), .int (zI h)] (zM I A W) = some (.inl (some (.int (zI (paid R F s w p h)))), zM I A' W) := by
  obtain ⟨d, rfl⟩ : ∃ e, d = e + 1 := ⟨d - 1, by omega⟩
  obtain ⟨A', f, e⟩ := c_cupHit (p := p) (h := h) (W := W) (show 4 ≤ d by omega) hX h0 h1 hh
  have hR' := hX.1.fr f rfl
  have b := chit_b (R := R) (F := F) (s := s) (w := w) (p := p) (h := h)
  have hc4 := hR'.1.2.2.1
  refine ⟨A', f, ?_⟩
  rw [cl_X0_paidFor]
  unfold paid
  by_cases q : chit R F s w p h = -1
  · rw [if_pos q]
    simp (implicitDefEqProofs := false) (disch := omega) only [↓rI_s, ↓rV_s, ↓rI_e, ↓rV_e, zc_eq, zc_ne, zc_lt, zc_ge, zc_gt, zc_le, zlt_t, zlt_f, zle_t, zle_f, zeq_t, zeq_f, lz, zadd, zsub, zmul, zneg, zb_e0, zb_e1, boo0, boo1, ua_s, ua_n, ua_ua, up_s, u2_s, u2_f, u2_c, u2_u2, Int.natCast_add, Int.zero_add, Int.add_zero, ↓reduceIte, ne_eq, not_true_eq_false, not_false_eq_true, Int.natCast_one, ↓k_X0_paidFor_0, ↓k_X0_paidFor_29, ↓mc_45, ↓zg_45_0, ↓zg_5_10, zl_11, zs_11, ↓zn_11, e, q]
  · rw [if_neg q]
    have ep := hR'.2.2.2.2.2.2.2.2.2 (chit R F s w p h) (by omega) b.2
    simp (implicitDefEqProofs := false) (disch := omega) only [↓rI_s, ↓rV_s, ↓rI_e, ↓rV_e, zc_eq, zc_ne, zc_lt, zc_ge, zc_gt, zc_le, zlt_t, zlt_f, zle_t, zle_f, zeq_t, zeq_f, lz, zadd, zsub, zmul, zneg, zb_e0, zb_e1, boo0, boo1, ua_s, ua_n, ua_ua, up_s, u2_s, u2_f, u2_c, u2_u2, Int.natCast_add, Int.zero_add, Int.add_zero, ↓reduceIte, ne_eq, not_true_eq_false, not_false_eq_true, Int.natCast_one, ↓k_X0_paidFor_0, ↓k_X0_paidFor_29, ↓mc_45, ↓zg_45_0, ↓zg_5_10, zl_11, zs_11, ↓zn_11, e, ep]
def vPr (R : zR) (F : zF) (s : Int → Int) (w h : Int) : Int := bts 9 fun j => decide (chit R F s w (j + 1) h ≠ -1)
theorem C_presses {w h : Int} (hd : 8 ≤ d) (hX : cX R F s I A) (hh : wI w) (hq : wI h) : cOut I A W (q_call q_MT d 128 [.ref 2, .int (zI w), .int (zI h)] (zM I A W)) (if 0 ≤ w ∧ w < rW R then (if 0 ≤ h ∧ h ≤ 1 then 0 else 2) else 1) (vPr R F s w h) := by
  obtain ⟨d, rfl⟩ : ∃ e, d = e + 1 := ⟨d - 1, by omega⟩
  have hR := hX.1
  have hc4 := hR.1.2.2.1
  rw [cl_X10_presses]
  by_cases h1 : 0 ≤ w ∧ w < rW R
  · by_cases h2 : 0 ≤ h ∧ h ≤ 1
    · rw [if_pos h1, if_pos h2]
      simp (implicitDefEqProofs := false) (disch := omega) only [↓rI_s, ↓rV_s, ↓rI_e, ↓rV_e, zc_eq, zc_ne, zc_lt, zc_ge, zc_gt, zc_le, zlt_t, zlt_f, zle_t, zle_f, zeq_t, zeq_f, lz, zadd, zsub, zmul, zneg, zb_e0, zb_e1, boo0, boo1, ua_s, ua_n, ua_ua, up_s, u2_s, u2_f, u2_c, u2_u2, Int.natCast_add, Int.zero_add, Int.add_zero, ↓reduceIte, ne_eq, not_true_eq_false, not_false_eq_true, Int.natCast_one, ↓k_X10_presses_0, ↓mc_2, s_needWink (show 2 ≤ d by omega) hR, s_needWink_f (show 2 ≤ d by omega) hR, s_needCup (show 2 ≤ d by omega) hR, s_needCup_f (show 2 ≤ d by omega) hR, s_needHouse (show 2 ≤ d by omega) hR, s_needHouse_f (show 2 ≤ d by omega) hR, s_needThere, s_needThere_f, s_needPress, s_needPress_f, s_needWhat, s_needWhat_f, s_needWithin, s_needWithin_f, s_need1, s_need0, t0_0, t0_1]
      refine lp_x (fun j (B : Nat → Int → Int) => q_run qm_X10_presses (q_call q_MT d) 16 [.ref 2, .int (zI w), .int (zI h), .int (zI (bts j fun j => decide (chit R F s w (j + 1) h ≠ -1))), .int (zI (j + 1))] [] (zM I B W)) (fun j B => fr [22, 23] A B) (fun r => cOut I A W r 0 (vPr R F s w h)) 9 ?_ ?_ 0 A (by omega) fr.refl
      · intro B f
        refine cOut.ok fi.refl (f.wd rfl) ?_
        rw [k_X10_presses_16]
        simp (implicitDefEqProofs := false) (disch := omega) only [↓rI_s, ↓rV_s, ↓rI_e, ↓rV_e, zc_eq, zc_ne, zc_lt, zc_ge, zc_gt, zc_le, zlt_t, zlt_f, zle_t, zle_f, zeq_t, zeq_f, lz, zadd, zsub, zmul, zneg, zb_e0, zb_e1, boo0, boo1, ua_s, ua_n, ua_ua, up_s, u2_s, u2_f, u2_c, u2_u2, Int.natCast_add, Int.zero_add, Int.add_zero, ↓reduceIte, ne_eq, not_true_eq_false, not_false_eq_true, Int.natCast_one]; rfl
      · intro j B hj f
        obtain ⟨B', f', e⟩ := c_cupHit (p := j + 1) (h := h) (W := W) (show 4 ≤ d by omega) (hX.t fi.refl (f.wd rfl)) h1.1 h1.2 (by omega)
        have b := chit_b (R := R) (F := F) (s := s) (w := w) (p := j + 1) (h := h)
        refine .inr ⟨B', f.tr f', ?_⟩
        rw [k_X10_presses_16]
        by_cases q : chit R F s w (j + 1) h = -1
        · have e2 : bts (j + 1) (fun j => decide (chit R F s w (j + 1) h ≠ -1)) = bts j fun j => decide (chit R F s w (j + 1) h ≠ -1) := by
            show bts j _ + (if _ then _ else 0) = _
            rw [if_neg (by simp [q])]; omega
          rw [e2]
          simp (implicitDefEqProofs := false) (disch := omega) only [↓rI_s, ↓rV_s, ↓rI_e, ↓rV_e, zc_eq, zc_ne, zc_lt, zc_ge, zc_gt, zc_le, zlt_t, zlt_f, zle_t, zle_f, zeq_t, zeq_f, lz, zadd, zsub, zmul, zneg, zb_e0, zb_e1, boo0, boo1, ua_s, ua_n, ua_ua, up_s, u2_s, u2_f, u2_c, u2_u2, Int.natCast_add, Int.zero_add, Int.add_zero, ↓reduceIte, ne_eq, not_true_eq_false, not_false_eq_true, Int.natCast_one, ↓zg_2_8, ↓mc_45, e, ↓k_X10_presses_47, q]
        · simp (implicitDefEqProofs := false) (disch := omega) only [↓rI_s, ↓rV_s, ↓rI_e, ↓rV_e, zc_eq, zc_ne, zc_lt, zc_ge, zc_gt, zc_le, zlt_t, zlt_f, zle_t, zle_f, zeq_t, zeq_f, lz, zadd, zsub, zmul, zneg, zb_e0, zb_e1, boo0, boo1, ua_s, ua_n, ua_ua, up_s, u2_s, u2_f, u2_c, u2_u2, Int.natCast_add, Int.zero_add, Int.add_zero, ↓reduceIte, ne_eq, not_true_eq_false, not_false_eq_true, Int.natCast_one, ↓zg_2_8, ↓mc_45, e, ↓k_X10_presses_47, Int.add_sub_cancel, bts_t (p := fun j => decide (chit R F s w (j + 1) h ≠ -1)) (show j < 10 by omega) (decide_eq_true q)]
    · rw [if_pos h1, if_neg h2]
      exact cOut.il (by simp (implicitDefEqProofs := false) (disch := omega) only [↓rI_s, ↓rV_s, ↓rI_e, ↓rV_e, zc_eq, zc_ne, zc_lt, zc_ge, zc_gt, zc_le, zlt_t, zlt_f, zle_t, zle_f, zeq_t, zeq_f, lz, zadd, zsub, zmul, zneg, zb_e0, zb_e1, boo0, boo1, ua_s, ua_n, ua_ua, up_s, u2_s, u2_f, u2_c, u2_u2, Int.natCast_add, Int.zero_add, Int.add_zero, ↓reduceIte, ne_eq, not_true_eq_false, not_false_eq_true, Int.natCast_one, ↓k_X10_presses_0, ↓mc_2, s_needWink (show 2 ≤ d by omega) hR, s_needWink_f (show 2 ≤ d by omega) hR, s_needCup (show 2 ≤ d by omega) hR, s_needCup_f (show 2 ≤ d by omega) hR, s_needHouse (show 2 ≤ d by omega) hR, s_needHouse_f (show 2 ≤ d by omega) hR, s_needThere, s_needThere_f, s_needPress, s_needPress_f, s_needWhat, s_needWhat_f, s_needWithin, s_needWithin_f, s_need1, s_need0, t0_0, t0_1])
  · rw [if_neg h1]
    exact cOut.ns (by simp (implicitDefEqProofs := false) (disch := omega) only [↓rI_s, ↓rV_s, ↓rI_e, ↓rV_e, zc_eq, zc_ne, zc_lt, zc_ge, zc_gt, zc_le, zlt_t, zlt_f, zle_t, zle_f, zeq_t, zeq_f, lz, zadd, zsub, zmul, zneg, zb_e0, zb_e1, boo0, boo1, ua_s, ua_n, ua_ua, up_s, u2_s, u2_f, u2_c, u2_u2, Int.natCast_add, Int.zero_add, Int.add_zero, ↓reduceIte, ne_eq, not_true_eq_false, not_false_eq_true, Int.natCast_one, ↓k_X10_presses_0, ↓mc_2, s_needWink (show 2 ≤ d by omega) hR, s_needWink_f (show 2 ≤ d by omega) hR, s_needCup (show 2 ≤ d by omega) hR, s_needCup_f (show 2 ≤ d by omega) hR, s_needHouse (show 2 ≤ d by omega) hR, s_needHouse_f (show 2 ≤ d by omega) hR, s_needThere, s_needThere_f, s_needPress, s_needPress_f, s_needWhat, s_needWhat_f, s_needWithin, s_needWithin_f, s_need1, s_need0, t0_0, t0_1])
theorem M_presses {w h : Int} (hd : 11 ≤ d) (hX : mX R F s I A) (hh : wI w) (hq : wI h) : mOut I A W (q_call q_MT d 241 [.ref 59, .int (zI w), .int (zI h)] (zM I A W)) (if 0 ≤ w ∧ w < rW R then (if 0 ≤ h ∧ h ≤ 1 then 0 else 2) else 1) (vPr R F s w h) 2 := by
  obtain ⟨d, rfl⟩ : ∃ e, d = e + 1 := ⟨d - 1, by omega⟩
  have hY := hX.y
  have hR := hX.1
  have hs := hX.2.1
  have hc4 := hR.1.2.2.1
  rw [cl_X11_presses]
  by_cases h1 : 0 ≤ w ∧ w < rW R
  · by_cases h2 : 0 ≤ h ∧ h ≤ 1
    · rw [if_pos h1, if_pos h2]
      simp (implicitDefEqProofs := false) (disch := omega) only [↓rI_s, ↓rV_s, ↓rI_e, ↓rV_e, zc_eq, zc_ne, zc_lt, zc_ge, zc_gt, zc_le, zlt_t, zlt_f, zle_t, zle_f, zeq_t, zeq_f, lz, zadd, zsub, zmul, zneg, zb_e0, zb_e1, boo0, boo1, ua_s, ua_n, ua_ua, up_s, u2_s, u2_f, u2_c, u2_u2, Int.natCast_add, Int.zero_add, Int.add_zero, ↓reduceIte, ne_eq, not_true_eq_false, not_false_eq_true, Int.natCast_one, ↓k_X11_presses_0, ↓mc_59, ↓zp_59_0, s_within, s_within_f, s_isPress, s_isPress_f, s_isWink (show 2 ≤ d by omega) hR, s_isWink_f (show 2 ≤ d by omega) hR, s_isHouse (show 2 ≤ d by omega) hR, s_isHouse_f (show 2 ≤ d by omega) hR, s_may1, s_may0, m_take (show 2 ≤ d by omega), hs]
      refine lp_x (fun j (B : Nat → Int → Int) => q_run qm_X11_presses (q_call q_MT d) 40 [.ref 59, .int (zI w), .int (zI h), .int (zI (bts j fun j => decide (chit R F s w (j + 1) h ≠ -1))), .int (zI (j + 1))] [] (zM (u2 I 59 0 0) B W)) (fun j B => fr [72, 73] (ua A 77 s) B) (fun r => mOut I A W r 0 (vPr R F s w h) 2) 9 ?_ ?_ 0 _ (by omega) fr.refl
      · intro B f
        refine mOut.ok (I1 := u2 I 59 0 0) (A1 := B) (fi.refl.f rfl) ((fr.refl.a rfl).tr (f.wd rfl)) u2_s ?_
        rw [k_X11_presses_40]
        simp (implicitDefEqProofs := false) (disch := omega) only [↓rI_s, ↓rV_s, ↓rI_e, ↓rV_e, zc_eq, zc_ne, zc_lt, zc_ge, zc_gt, zc_le, zlt_t, zlt_f, zle_t, zle_f, zeq_t, zeq_f, lz, zadd, zsub, zmul, zneg, zb_e0, zb_e1, boo0, boo1, ua_s, ua_n, ua_ua, up_s, u2_s, u2_f, u2_c, u2_u2, Int.natCast_add, Int.zero_add, Int.add_zero, ↓reduceIte, ne_eq, not_true_eq_false, not_false_eq_true, Int.natCast_one]; rfl
      · intro j B hj f
        obtain ⟨B', f', e⟩ := m_cupOf (p := j + 1) (h := h) (W := W) (show 9 ≤ d by omega) (hY.t fi.refl (f.wd rfl)) h1.1 h1.2 (by omega)
        have b := chit_b (R := R) (F := F) (s := s) (w := w) (p := j + 1) (h := h)
        refine .inr ⟨B', f.tr f', ?_⟩
        rw [k_X11_presses_40]
        by_cases q : chit R F s w (j + 1) h = -1
        · simp (implicitDefEqProofs := false) (disch := omega) only [↓rI_s, ↓rV_s, ↓rI_e, ↓rV_e, zc_eq, zc_ne, zc_lt, zc_ge, zc_gt, zc_le, zlt_t, zlt_f, zle_t, zle_f, zeq_t, zeq_f, lz, zadd, zsub, zmul, zneg, zb_e0, zb_e1, boo0, boo1, ua_s, ua_n, ua_ua, up_s, u2_s, u2_f, u2_c, u2_u2, Int.natCast_add, Int.zero_add, Int.add_zero, ↓reduceIte, ne_eq, not_true_eq_false, not_false_eq_true, Int.natCast_one, ↓mc_59, e, ↓k_X11_presses_70, q, bts_f (p := fun j => decide (chit R F s w (j + 1) h ≠ -1)) (j := j) (by simp [q])]
        · simp (implicitDefEqProofs := false) (disch := omega) only [↓rI_s, ↓rV_s, ↓rI_e, ↓rV_e, zc_eq, zc_ne, zc_lt, zc_ge, zc_gt, zc_le, zlt_t, zlt_f, zle_t, zle_f, zeq_t, zeq_f, lz, zadd, zsub, zmul, zneg, zb_e0, zb_e1, boo0, boo1, ua_s, ua_n, ua_ua, up_s, u2_s, u2_f, u2_c, u2_u2, Int.natCast_add, Int.zero_add, Int.add_zero, ↓reduceIte, ne_eq, not_true_eq_false, not_false_eq_true, Int.natCast_one, ↓mc_59, e, ↓k_X11_presses_70, Int.add_sub_cancel, bts_t (p := fun j => decide (chit R F s w (j + 1) h ≠ -1)) (show j < 10 by omega) (decide_eq_true q)]
    · rw [if_pos h1, if_neg h2]
      exact mOut.il fr.refl (by simp (implicitDefEqProofs := false) (disch := omega) only [↓rI_s, ↓rV_s, ↓rI_e, ↓rV_e, zc_eq, zc_ne, zc_lt, zc_ge, zc_gt, zc_le, zlt_t, zlt_f, zle_t, zle_f, zeq_t, zeq_f, lz, zadd, zsub, zmul, zneg, zb_e0, zb_e1, boo0, boo1, ua_s, ua_n, ua_ua, up_s, u2_s, u2_f, u2_c, u2_u2, Int.natCast_add, Int.zero_add, Int.add_zero, ↓reduceIte, ne_eq, not_true_eq_false, not_false_eq_true, Int.natCast_one, ↓k_X11_presses_0, ↓k_X11_presses_29, ↓k_X11_presses_70, zp_59_0, ↓mc_59, ↓mc_59, ↓zp_59_0, s_within, s_within_f, s_isPress, s_isPress_f, s_isWink (show 2 ≤ d by omega) hR, s_isWink_f (show 2 ≤ d by omega) hR, s_isHouse (show 2 ≤ d by omega) hR, s_isHouse_f (show 2 ≤ d by omega) hR, s_may1, s_may0, m_take (show 2 ≤ d by omega)])
  · rw [if_neg h1]
    exact mOut.ns (by simp (implicitDefEqProofs := false) (disch := omega) only [↓rI_s, ↓rV_s, ↓rI_e, ↓rV_e, zc_eq, zc_ne, zc_lt, zc_ge, zc_gt, zc_le, zlt_t, zlt_f, zle_t, zle_f, zeq_t, zeq_f, lz, zadd, zsub, zmul, zneg, zb_e0, zb_e1, boo0, boo1, ua_s, ua_n, ua_ua, up_s, u2_s, u2_f, u2_c, u2_u2, Int.natCast_add, Int.zero_add, Int.add_zero, ↓reduceIte, ne_eq, not_true_eq_false, not_false_eq_true, Int.natCast_one, ↓k_X11_presses_0, ↓k_X11_presses_29, ↓k_X11_presses_70, zp_59_0, ↓mc_59, ↓mc_59, ↓zp_59_0, s_within, s_within_f, s_isPress, s_isPress_f, s_isWink (show 2 ≤ d by omega) hR, s_isWink_f (show 2 ≤ d by omega) hR, s_isHouse (show 2 ≤ d by omega) hR, s_isHouse_f (show 2 ≤ d by omega) hR, s_may1, s_may0, m_take (show 2 ≤ d by omega)])
end Q2
