--DEPS 75.trial
/-! Rows that agree; the panic. -/
theorem lnd_cg {R : zR} {s t : Int → Int} {w x i : Int} (h10 : rW R ≤ 10) (h0 : 0 ≤ w) (h1 : w < rW R) (h : ∀ j : Int, 0 ≤ j → j < 20 → s j = t j) (hi : s i = t i) : lnd R s w x i = lnd R t w x i := by
  have e1 : ∀ j : Int, s j = t j → lnd1 (rW R) s w j = lnd1 (rW R) t w j := by
    intro j hj
    unfold lnd1
    rw [hj, h w h0 (by omega), h (10 + w) (by omega) (by omega)]
    by_cases q : 10 ≤ j ∧ j < 10 + (rW R : Int)
    · rw [h (j - 10) (by omega) (by omega)]
    · rw [if_neg (by omega), if_neg (by omega)]
  have e2 : many R (up (lnd1 (rW R) s w) w (-2)) x = many R (up (lnd1 (rW R) t w) w (-2)) x := many_cg (fun j j0 j1 => by
    unfold up
    split
    · rfl
    · exact e1 j (h j j0 (by omega))) x
  unfold lnd
  rw [e2]
  unfold up
  split
  · rfl
  · split
    · rfl
    · split
      · rfl
      · exact e1 i hi
theorem flA_cg {R : zR} {F : zF} {s t : Int → Int} {w p : Int} (e0 : s w = t w) (e1 : s (10 + w) = t (10 + w)) (e2 : s (20 + w) = t (20 + w)) (e3 : s (40 + rO R w) = t (40 + rO R w)) (e4 : s 45 = t 45) (e5 : s 46 = t 46) : flA R F s w p = flA R F t w p := by
  unfold flA fl
  rw [e0, e1, e2, e3, e4, e5]
theorem dn_cg {R : zR} {F : zF} {s t : Int → Int} {w p h : Int} (e0 : s w = t w) (e1 : s (10 + w) = t (10 + w)) (e2 : s (20 + w) = t (20 + w)) (e3 : s (40 + rO R w) = t (40 + rO R w)) (e4 : s 45 = t 45) (e5 : s 46 = t 46) : dn R F s w p h = dn R F t w p h := by
  unfold dn
  rw [flA_cg e0 e1 e2 e3 e4 e5, e0]
theorem free_cg {R : zR} {s t : Int → Int} (h10 : rW R ≤ 10) (h : ∀ j : Int, 0 ≤ j → j < 20 → s j = t j) {w : Int} (h0 : 0 ≤ w) (h1 : w < rW R) : free R s w ↔ free R t w := by
  unfold free
  rw [over_cg (s := s) (t := t) (fun v v0 v1 => h v v0 (by omega)) h0 h1 (h (10 + w) (by omega) (by omega)), h w h0 (by omega)]
def pnN (R : zR) (F : zF) (s : Int → Int) (p : Int) : Nat → Int → Int
  | 0 => s
  | n + 1 => if free R s n ∧ free R (pnN R F s p n) n ∧ dn R F (pnN R F s p n) n p 0 ≠ pnN R F s p n n then lnd R (pnN R F s p n) n (dn R F (pnN R F s p n) n p 0) else pnN R F s p n
theorem pnN_V {R : zR} {F : zF} {s : Int → Int} {p : Int} (hV : sV R s) (hR : wR R) (hF : wF F) : ∀ n : Nat, n ≤ rW R → sV R (pnN R F s p n)
  | 0, _ => hV
  | n + 1, hn => by
    have ih := pnN_V (F := F) (p := p) hV hR hF n (by omega)
    unfold pnN
    split
    · rename_i q
      have := dn_c (s := pnN R F s p n) (w := n) (p := p) (h := 0) hR hF
      exact ih.go hR (by omega) (by omega) q.2.1.1 (by omega)
    · exact ih
def vPanic (R : zR) (F : zF) (s : Int → Int) (p k : Int) : Int := if k = 0 then many R (pnN R F s p (rW R)) (-3) - many R s (-3) else if k = 1 then many R (pnN R F s p (rW R)) (-2) - many R s (-2) else cnt (rW R) fun w => decide (0 < over R (pnN R F s p (rW R)) w)
section PN
variable {d : Nat} {I : Nat → Nat → Int} {A : Nat → Int → Int} {W : qWt} {R : zR} {F : zF} {s : Int → Int}
theorem C_panic {p k : Int} (hd : 6 ≤ d) (hX : cX R F s I A) (hp : wI p) (hk : wI k) : cOut I A W (q_call q_MT d 138 [.ref 2, .int (zI p), .int (zI k)] (zM I A W)) (if (1 ≤ p ∧ p ≤ 9) ∧ (0 ≤ k ∧ k ≤ 2) then 0 else 2) (vPanic R F s p k) := by
  obtain ⟨d, rfl⟩ : ∃ e, d = e + 1 := ⟨d - 1, by omega⟩
  have hR := hX.1
  have hw := hR.1.2.1
  have e1 := hR.2.2.1
  have hV := hX.2.2.1.1
  have hF := hX.2.2.2.w
  rw [cl_X10_panic]
  by_cases c1 : 1 ≤ p ∧ p ≤ 9
  · by_cases c2 : 0 ≤ k ∧ k ≤ 2
    · rw [if_pos ⟨c1, c2⟩]
      obtain ⟨I1, A1, f1, g1, b1, e⟩ := c_startTrial (W := W) (show 3 ≤ d by omega) hX
      have hR1 := (hR.fi f1 rfl).fr g1 rfl
      have e9 := hR1.2.2.1
      simp (implicitDefEqProofs := false) (disch := omega) only [↓rI_s, ↓rV_s, ↓rI_e, ↓rV_e, zc_eq, zc_ne, zc_lt, zc_ge, zc_gt, zc_le, zlt_t, zlt_f, zle_t, zle_f, zeq_t, zeq_f, lz, zadd, zsub, zmul, zneg, zb_e0, zb_e1, boo0, boo1, ua_s, ua_n, ua_ua, up_s, u2_s, u2_f, u2_c, u2_u2, Int.natCast_add, Int.zero_add, Int.add_zero, ↓reduceIte, ne_eq, not_true_eq_false, not_false_eq_true, Int.natCast_one, ↓k_X10_panic_0, ↓mc_2, s_needWink (show 2 ≤ d by omega) hR, s_needWink_f (show 2 ≤ d by omega) hR, s_needCup (show 2 ≤ d by omega) hR, s_needCup_f (show 2 ≤ d by omega) hR, s_needHouse (show 2 ≤ d by omega) hR, s_needHouse_f (show 2 ≤ d by omega) hR, s_needThere, s_needThere_f, s_needPress, s_needPress_f, s_needWhat, s_needWhat_f, s_needWithin, s_needWithin_f, s_need1, s_need0, t0_0, t0_1, e, ↓zg_2_7, ↓mc_30]
      rw [c30_freeBits (by omega) hR1 b1 hV.1]
      simp (implicitDefEqProofs := false) (disch := omega) only [↓rI_s, ↓rV_s, ↓rI_e, ↓rV_e, zc_eq, zc_ne, zc_lt, zc_ge, zc_gt, zc_le, zlt_t, zlt_f, zle_t, zle_f, zeq_t, zeq_f, lz, zadd, zsub, zmul, zneg, zb_e0, zb_e1, boo0, boo1, ua_s, ua_n, ua_ua, up_s, u2_s, u2_f, u2_c, u2_u2, Int.natCast_add, Int.zero_add, Int.add_zero, ↓reduceIte, ne_eq, not_true_eq_false, not_false_eq_true, Int.natCast_one, ↓zg_2_7, ↓mc_30]
      rw [c30_inCupBits (by omega) hR1 b1 hV.1]
      simp (implicitDefEqProofs := false) (disch := omega) only [↓rI_s, ↓rV_s, ↓rI_e, ↓rV_e, zc_eq, zc_ne, zc_lt, zc_ge, zc_gt, zc_le, zlt_t, zlt_f, zle_t, zle_f, zeq_t, zeq_f, lz, zadd, zsub, zmul, zneg, zb_e0, zb_e1, boo0, boo1, ua_s, ua_n, ua_ua, up_s, u2_s, u2_f, u2_c, u2_u2, Int.natCast_add, Int.zero_add, Int.add_zero, ↓reduceIte, ne_eq, not_true_eq_false, not_false_eq_true, Int.natCast_one, j_bitCount (show 1 ≤ d by omega) hw, ↓zg_2_7, ↓mc_30]
      rw [c30_floorBits (by omega) hR1 b1 hV.1]
      simp (implicitDefEqProofs := false) (disch := omega) only [↓rI_s, ↓rV_s, ↓rI_e, ↓rV_e, zc_eq, zc_ne, zc_lt, zc_ge, zc_gt, zc_le, zlt_t, zlt_f, zle_t, zle_f, zeq_t, zeq_f, lz, zadd, zsub, zmul, zneg, zb_e0, zb_e1, boo0, boo1, ua_s, ua_n, ua_ua, up_s, u2_s, u2_f, u2_c, u2_u2, Int.natCast_add, Int.zero_add, Int.add_zero, ↓reduceIte, ne_eq, not_true_eq_false, not_false_eq_true, Int.natCast_one, j_bitCount (show 1 ≤ d by omega) hw]
      generalize hm : bts (rW R) (fun w => decide (free R s w)) = m
      refine lp_x (fun j (B : Nat → Int → Int) => q_run qm_X10_panic (q_call q_MT d) 50 [.ref 2, .int (zI p), .int (zI k), .int (zI m), .int (zI (cnt (rW R) fun w => decide (s w = -3))), .int (zI (cnt (rW R) fun w => decide (s w = -2))), .int (zI j)] [] (zM I1 B W)) (fun j B => fr tL A B ∧ tB R (pnN R F s p j) I1 B) (fun r => cOut I A W r 0 (vPanic R F s p k)) (rW R) ?_ ?_ 0 A1 (by omega) ⟨g1, b1⟩
      · rintro B ⟨g2, b2⟩
        refine cOut.ok (f1.wd rfl) (g2.wd rfl) ?_
        have hV2 := pnN_V (p := p) hV hR.1 hF (rW R) (Nat.le_refl _)
        have hR2 := (hR.fi f1 rfl).fr g2 rfl
        have : k = 0 ∨ k = 1 ∨ k = 2 := by omega
        rw [k_X10_panic_50]
        rcases this with rfl | rfl | rfl
        · simp (implicitDefEqProofs := false) (disch := omega) only [↓rI_s, ↓rV_s, ↓rI_e, ↓rV_e, zc_eq, zc_ne, zc_lt, zc_ge, zc_gt, zc_le, zlt_t, zlt_f, zle_t, zle_f, zeq_t, zeq_f, lz, zadd, zsub, zmul, zneg, zb_e0, zb_e1, boo0, boo1, ua_s, ua_n, ua_ua, up_s, u2_s, u2_f, u2_c, u2_u2, Int.natCast_add, Int.zero_add, Int.add_zero, ↓reduceIte, ne_eq, not_true_eq_false, not_false_eq_true, Int.natCast_one, ↓zg_2_1, ↓zg_5_1, e9, Int.le_refl, ↓zg_2_7, ↓mc_30]
          rw [c30_inCupBits (by omega) hR2 b2 hV2.1]
          simp (implicitDefEqProofs := false) (disch := omega) only [↓rI_s, ↓rV_s, ↓rI_e, ↓rV_e, zc_eq, zc_ne, zc_lt, zc_ge, zc_gt, zc_le, zlt_t, zlt_f, zle_t, zle_f, zeq_t, zeq_f, lz, zadd, zsub, zmul, zneg, zb_e0, zb_e1, boo0, boo1, ua_s, ua_n, ua_ua, up_s, u2_s, u2_f, u2_c, u2_u2, Int.natCast_add, Int.zero_add, Int.add_zero, ↓reduceIte, ne_eq, not_true_eq_false, not_false_eq_true, Int.natCast_one, j_bitCount (show 1 ≤ d by omega) hw]
          rfl
        · simp (implicitDefEqProofs := false) (disch := omega) only [↓rI_s, ↓rV_s, ↓rI_e, ↓rV_e, zc_eq, zc_ne, zc_lt, zc_ge, zc_gt, zc_le, zlt_t, zlt_f, zle_t, zle_f, zeq_t, zeq_f, lz, zadd, zsub, zmul, zneg, zb_e0, zb_e1, boo0, boo1, ua_s, ua_n, ua_ua, up_s, u2_s, u2_f, u2_c, u2_u2, Int.natCast_add, Int.zero_add, Int.add_zero, ↓reduceIte, ne_eq, not_true_eq_false, not_false_eq_true, Int.natCast_one, ↓zg_2_1, ↓zg_5_1, e9, Int.le_refl, ↓zg_2_7, ↓mc_30]
          rw [c30_floorBits (by omega) hR2 b2 hV2.1]
          simp (implicitDefEqProofs := false) (disch := omega) only [↓rI_s, ↓rV_s, ↓rI_e, ↓rV_e, zc_eq, zc_ne, zc_lt, zc_ge, zc_gt, zc_le, zlt_t, zlt_f, zle_t, zle_f, zeq_t, zeq_f, lz, zadd, zsub, zmul, zneg, zb_e0, zb_e1, boo0, boo1, ua_s, ua_n, ua_ua, up_s, u2_s, u2_f, u2_c, u2_u2, Int.natCast_add, Int.zero_add, Int.add_zero, ↓reduceIte, ne_eq, not_true_eq_false, not_false_eq_true, Int.natCast_one, j_bitCount (show 1 ≤ d by omega) hw, ↓k_X10_panic_159]
          rfl
        · simp (implicitDefEqProofs := false) (disch := omega) only [↓rI_s, ↓rV_s, ↓rI_e, ↓rV_e, zc_eq, zc_ne, zc_lt, zc_ge, zc_gt, zc_le, zlt_t, zlt_f, zle_t, zle_f, zeq_t, zeq_f, lz, zadd, zsub, zmul, zneg, zb_e0, zb_e1, boo0, boo1, ua_s, ua_n, ua_ua, up_s, u2_s, u2_f, u2_c, u2_u2, Int.natCast_add, Int.zero_add, Int.add_zero, ↓reduceIte, ne_eq, not_true_eq_false, not_false_eq_true, Int.natCast_one, ↓zg_2_1, ↓zg_5_1, e9, Int.le_refl, ↓zg_2_7, ↓mc_30]
          rw [c30_frozenBits (by omega) hR2 b2 hV2.1]
          simp (implicitDefEqProofs := false) (disch := omega) only [↓rI_s, ↓rV_s, ↓rI_e, ↓rV_e, zc_eq, zc_ne, zc_lt, zc_ge, zc_gt, zc_le, zlt_t, zlt_f, zle_t, zle_f, zeq_t, zeq_f, lz, zadd, zsub, zmul, zneg, zb_e0, zb_e1, boo0, boo1, ua_s, ua_n, ua_ua, up_s, u2_s, u2_f, u2_c, u2_u2, Int.natCast_add, Int.zero_add, Int.add_zero, ↓reduceIte, ne_eq, not_true_eq_false, not_false_eq_true, Int.natCast_one, j_bitCount (show 1 ≤ d by omega) hw, ↓k_X10_panic_159]
          rfl
      · rintro j B hj ⟨g2, b2⟩
        have hVj := pnN_V (p := p) hV hR.1 hF j (by omega)
        have hR2 := (hR.fi f1 rfl).fr g2 rfl
        have hL2 := (hX.2.2.2.fi f1 rfl).fr g2 rfl
        have hbit := bts_bit (p := fun w => decide (free R s w)) hw hj
        rw [hm] at hbit
        rw [k_X10_panic_50]
        by_cases q1 : free R s j
        · rw [if_pos (decide_eq_true q1)] at hbit
          simp (implicitDefEqProofs := false) (disch := omega) only [↓rI_s, ↓rV_s, ↓rI_e, ↓rV_e, zc_eq, zc_ne, zc_lt, zc_ge, zc_gt, zc_le, zlt_t, zlt_f, zle_t, zle_f, zeq_t, zeq_f, lz, zadd, zsub, zmul, zneg, zb_e0, zb_e1, boo0, boo1, ua_s, ua_n, ua_ua, up_s, u2_s, u2_f, u2_c, u2_u2, Int.natCast_add, Int.zero_add, Int.add_zero, ↓reduceIte, ne_eq, not_true_eq_false, not_false_eq_true, Int.natCast_one, ↓zg_2_1, ↓zg_5_1, e9, hbit, ↓zg_2_7, ↓mc_30]
          rw [c30_isFree (by omega) hR2 b2 hVj.1 (by omega) (by omega)]
          by_cases q2 : free R (pnN R F s p j) j
          · rw [zb_t q2]
            obtain ⟨B1, g3, e3⟩ := c30_flight (p := p) (W := W) (show 3 ≤ d by omega) hR2 b2 hVj.1 hL2 (w := j) (by omega) (by omega)
            have fb := flA_b (R := R) hF (pnN R F s p j) j p
            have b3 : tB R (pnN R F s p j) I1 B1 := by
              unfold tB
              rw [g3 31 rfl, g3 32 rfl, g3 33 rfl, g3 34 rfl, g3 35 rfl]; exact b2
            have pj := (hVj.1 j (by omega) (by omega)).1
            have pj0 := q2.1
            by_cases q3 : flA R F (pnN R F s p j) j p = 0
            · have ed : dn R F (pnN R F s p j) j p 0 = pnN R F s p j j := by
                unfold dn; rw [if_pos rfl, q3, if_neg (by omega)]; omega
              have ep : pnN R F s p (j + 1) = pnN R F s p j := if_neg fun q => q.2.2 ed
              rw [q3] at e3
              refine .inr ⟨B1, ⟨g2.tr (g3.wd rfl), by rw [ep]; exact b3⟩, ?_⟩
              simp (implicitDefEqProofs := false) (disch := omega) only [↓rI_s, ↓rV_s, ↓rI_e, ↓rV_e, zc_eq, zc_ne, zc_lt, zc_ge, zc_gt, zc_le, zlt_t, zlt_f, zle_t, zle_f, zeq_t, zeq_f, lz, zadd, zsub, zmul, zneg, zb_e0, zb_e1, boo0, boo1, ua_s, ua_n, ua_ua, up_s, u2_s, u2_f, u2_c, u2_u2, Int.natCast_add, Int.zero_add, Int.add_zero, ↓reduceIte, ne_eq, not_true_eq_false, not_false_eq_true, Int.natCast_one, ↓zg_2_7, ↓mc_30, e3, c30_fly0 (show 2 ≤ d by omega), ↓k_X10_panic_104]
            · obtain ⟨B2, g4, b4, e4⟩ := c30_fly (f := flA R F (pnN R F s p j) j p) (W := W) (show 2 ≤ d by omega) (hR2.fr g3 rfl) b3 hVj.1 (w := j) (by omega) (by omega) q2.1 q3 (by omega)
              have ed : (if pnN R F s p j j + flA R F (pnN R F s p j) j p < 0 ∨ rF R ≤ pnN R F s p j j + flA R F (pnN R F s p j) j p then -2 else pnN R F s p j j + flA R F (pnN R F s p j) j p) = dn R F (pnN R F s p j) j p 0 := by
                unfold dn; rw [if_pos (show (0 : Int) = 0 from rfl)]
              rw [ed] at b4 e4
              have ene : dn R F (pnN R F s p j) j p 0 ≠ pnN R F s p j j := by rw [← ed]; split <;> omega
              have ep : pnN R F s p (j + 1) = lnd R (pnN R F s p j) j (dn R F (pnN R F s p j) j p 0) := if_pos ⟨q1, q2, ene⟩
              refine .inr ⟨B2, ⟨(g2.tr (g3.wd rfl)).tr (g4.wd rfl), by rw [ep]; exact b4⟩, ?_⟩
              simp (implicitDefEqProofs := false) (disch := omega) only [↓rI_s, ↓rV_s, ↓rI_e, ↓rV_e, zc_eq, zc_ne, zc_lt, zc_ge, zc_gt, zc_le, zlt_t, zlt_f, zle_t, zle_f, zeq_t, zeq_f, lz, zadd, zsub, zmul, zneg, zb_e0, zb_e1, boo0, boo1, ua_s, ua_n, ua_ua, up_s, u2_s, u2_f, u2_c, u2_u2, Int.natCast_add, Int.zero_add, Int.add_zero, ↓reduceIte, ne_eq, not_true_eq_false, not_false_eq_true, Int.natCast_one, ↓zg_2_7, ↓mc_30, e3, e4, ↓k_X10_panic_104]
          · rw [zb_f q2]
            have ep : pnN R F s p (j + 1) = pnN R F s p j := if_neg fun q => q2 q.2.1
            refine .inr ⟨B, ⟨g2, by rw [ep]; exact b2⟩, ?_⟩
            simp (implicitDefEqProofs := false) (disch := omega) only [↓rI_s, ↓rV_s, ↓rI_e, ↓rV_e, zc_eq, zc_ne, zc_lt, zc_ge, zc_gt, zc_le, zlt_t, zlt_f, zle_t, zle_f, zeq_t, zeq_f, lz, zadd, zsub, zmul, zneg, zb_e0, zb_e1, boo0, boo1, ua_s, ua_n, ua_ua, up_s, u2_s, u2_f, u2_c, u2_u2, Int.natCast_add, Int.zero_add, Int.add_zero, ↓reduceIte, ne_eq, not_true_eq_false, not_false_eq_true, Int.natCast_one, ↓k_X10_panic_104]
        · rw [if_neg (fun q2 => q1 (of_decide_eq_true q2))] at hbit
          have ep : pnN R F s p (j + 1) = pnN R F s p j := if_neg fun q => q1 q.1
          refine .inr ⟨B, ⟨g2, by rw [ep]; exact b2⟩, ?_⟩
          simp (implicitDefEqProofs := false) (disch := omega) only [↓rI_s, ↓rV_s, ↓rI_e, ↓rV_e, zc_eq, zc_ne, zc_lt, zc_ge, zc_gt, zc_le, zlt_t, zlt_f, zle_t, zle_f, zeq_t, zeq_f, lz, zadd, zsub, zmul, zneg, zb_e0, zb_e1, boo0, boo1, ua_s, ua_n, ua_ua, up_s, u2_s, u2_f, u2_c, u2_u2, Int.natCast_add, Int.zero_add, Int.add_zero, ↓reduceIte, ne_eq, not_true_eq_false, not_false_eq_true, Int.natCast_one, ↓zg_2_1, ↓zg_5_1, e9, hbit, ↓k_X10_panic_104]
    · rw [if_neg (fun q => c2 q.2)]
      exact cOut.il (by simp (implicitDefEqProofs := false) (disch := omega) only [↓rI_s, ↓rV_s, ↓rI_e, ↓rV_e, zc_eq, zc_ne, zc_lt, zc_ge, zc_gt, zc_le, zlt_t, zlt_f, zle_t, zle_f, zeq_t, zeq_f, lz, zadd, zsub, zmul, zneg, zb_e0, zb_e1, boo0, boo1, ua_s, ua_n, ua_ua, up_s, u2_s, u2_f, u2_c, u2_u2, Int.natCast_add, Int.zero_add, Int.add_zero, ↓reduceIte, ne_eq, not_true_eq_false, not_false_eq_true, Int.natCast_one, ↓k_X10_panic_0, ↓mc_2, s_needWink (show 2 ≤ d by omega) hR, s_needWink_f (show 2 ≤ d by omega) hR, s_needCup (show 2 ≤ d by omega) hR, s_needCup_f (show 2 ≤ d by omega) hR, s_needHouse (show 2 ≤ d by omega) hR, s_needHouse_f (show 2 ≤ d by omega) hR, s_needThere, s_needThere_f, s_needPress, s_needPress_f, s_needWhat, s_needWhat_f, s_needWithin, s_needWithin_f, s_need1, s_need0, t0_0, t0_1])
  · rw [if_neg (fun q => c1 q.1)]
    exact cOut.il (by simp (implicitDefEqProofs := false) (disch := omega) only [↓rI_s, ↓rV_s, ↓rI_e, ↓rV_e, zc_eq, zc_ne, zc_lt, zc_ge, zc_gt, zc_le, zlt_t, zlt_f, zle_t, zle_f, zeq_t, zeq_f, lz, zadd, zsub, zmul, zneg, zb_e0, zb_e1, boo0, boo1, ua_s, ua_n, ua_ua, up_s, u2_s, u2_f, u2_c, u2_u2, Int.natCast_add, Int.zero_add, Int.add_zero, ↓reduceIte, ne_eq, not_true_eq_false, not_false_eq_true, Int.natCast_one, ↓k_X10_panic_0, ↓mc_2, s_needWink (show 2 ≤ d by omega) hR, s_needWink_f (show 2 ≤ d by omega) hR, s_needCup (show 2 ≤ d by omega) hR, s_needCup_f (show 2 ≤ d by omega) hR, s_needHouse (show 2 ≤ d by omega) hR, s_needHouse_f (show 2 ≤ d by omega) hR, s_needThere, s_needThere_f, s_needPress, s_needPress_f, s_needWhat, s_needWhat_f, s_needWithin, s_needWithin_f, s_need1, s_need0, t0_0, t0_1])
theorem M_panic {p k : Int} (hd : 10 ≤ d) (hX : mX R F s I A) (hp : wI p) (hk : wI k) : mOut I A W (q_call q_MT d 263 [.ref 59, .int (zI p), .int (zI k)] (zM I A W)) (if (1 ≤ p ∧ p ≤ 9) ∧ (0 ≤ k ∧ k ≤ 2) then 0 else 2) (vPanic R F s p k) 1 := by
  obtain ⟨d, rfl⟩ : ∃ e, d = e + 1 := ⟨d - 1, by omega⟩
  have hY := hX.y
  have hR := hX.1
  have hs := hX.2.1
  have hw := hR.1.2.1
  have h5 := hR.1.1
  have e1 := hR.2.2.1
  have hV := hX.2.2.1.1
  have hL := hX.2.2.2
  have hF := hL.w
  rw [cl_X11_panic]
  by_cases c1 : 1 ≤ p ∧ p ≤ 9
  · by_cases c2 : 0 ≤ k ∧ k ≤ 2
    · rw [if_pos ⟨c1, c2⟩]
      obtain ⟨g, hg, eg⟩ := m_frees (A := ua A 77 s) (I := u2 I 59 0 0) (W := W) (show 4 ≤ d by omega) hR.z (hV.1.b hR.1)
      rw [ua_s] at hg eg
      simp (implicitDefEqProofs := false) (disch := omega) only [↓rI_s, ↓rV_s, ↓rI_e, ↓rV_e, zc_eq, zc_ne, zc_lt, zc_ge, zc_gt, zc_le, zlt_t, zlt_f, zle_t, zle_f, zeq_t, zeq_f, lz, zadd, zsub, zmul, zneg, zb_e0, zb_e1, boo0, boo1, ua_s, ua_n, ua_ua, up_s, u2_s, u2_f, u2_c, u2_u2, Int.natCast_add, Int.zero_add, Int.add_zero, ↓reduceIte, ne_eq, not_true_eq_false, not_false_eq_true, Int.natCast_one, ↓k_X11_panic_0, ↓k_X11_panic_26, ↓k_X11_panic_27, ↓mc_59, ↓zp_59_0, s_within, s_within_f, s_isPress, s_isPress_f, s_isWink (show 2 ≤ d by omega) hR, s_isWink_f (show 2 ≤ d by omega) hR, s_isHouse (show 2 ≤ d by omega) hR, s_isHouse_f (show 2 ≤ d by omega) hR, s_may1, s_may0, m_take (show 2 ≤ d by omega), hs, eg]
      refine lp_x (fun j (B : (Nat → Int → Int) × Value) => q_run qm_X11_panic (q_call q_MT d) 54 [.ref 59, .int (zI p), .int (zI k), .int (zI (many R (pnN R F s p j) (-3) - many R s (-3))), .int (zI (many R (pnN R F s p j) (-2) - many R s (-2))), .int (zI j), B.2] [] (zM (u2 I 59 0 0) B.1 W)) (fun j B => fr Lq A B.1 ∧ fr [72, 73, 77] (ua (ua A 77 s) 79 g) B.1 ∧ ∀ i : Int, (i < 20 ∨ 30 ≤ i ∨ 20 + (j : Int) ≤ i) → B.1 77 i = pnN R F s p j i) (fun r => mOut I A W r 0 (vPanic R F s p k) 1) (rW R) ?_ ?_ 0 (ua (ua A 77 s) 79 g, q_junk) (by omega) ⟨(fr.refl.a rfl).a rfl, fr.refl, fun i _ => rfl⟩ |> fun h => ?_
      · have x3 : many R (pnN R F s p 0) (-3) - many R s (-3) = 0 := by show many R s (-3) - many R s (-3) = 0; omega
        have x2 : many R (pnN R F s p 0) (-2) - many R s (-2) = 0 := by show many R s (-2) - many R s (-2) = 0; omega
        dsimp only at h
        rw [x3, x2] at h
        exact h
      · rintro ⟨B, l6⟩ ⟨g1, g2, hB⟩
        dsimp only at g1 g2 hB ⊢
        have hV2 := pnN_V (p := p) hV hR.1 hF (rW R) (Nat.le_refl _)
        have hR2 := ((hR.z (g := s)).fr (L := [79]) (fr.refl.a (g := g) rfl) rfl).fr g2 rfl
        rw [k_X11_panic_54]
        by_cases k2 : k = 2
        · subst k2
          refine lp_x (fun j (_ : Unit) => q_run qm_X11_panic (q_call q_MT d) 168 [.ref 59, .int (zI p), .int (zI 2), .int (zI (many R (pnN R F s p (rW R)) (-3) - many R s (-3))), .int (zI (many R (pnN R F s p (rW R)) (-2) - many R s (-2))), .int (zI (cnt j fun w => decide (0 < over R (pnN R F s p (rW R)) w))), .int (zI j)] [] (zM (u2 I 59 0 0) B W)) (fun _ _ => True) (fun r => mOut I A W r 0 (vPanic R F s p 2) 1) (rW R) ?_ ?_ 0 () (by omega) trivial |> fun h => ?_
          · simp (implicitDefEqProofs := false) (disch := omega) only [↓rI_s, ↓rV_s, ↓rI_e, ↓rV_e, zc_eq, zc_ne, zc_lt, zc_ge, zc_gt, zc_le, zlt_t, zlt_f, zle_t, zle_f, zeq_t, zeq_f, lz, zadd, zsub, zmul, zneg, zb_e0, zb_e1, boo0, boo1, ua_s, ua_n, ua_ua, up_s, u2_s, u2_f, u2_c, u2_u2, Int.natCast_add, Int.zero_add, Int.add_zero, ↓reduceIte, ne_eq, not_true_eq_false, not_false_eq_true, Int.natCast_one, ↓zg_59_22, e1, Int.le_refl]
            exact h
          · intro _ _
            refine mOut.ok (I1 := u2 I 59 0 0) (A1 := B) (fi.refl.f rfl) g1 u2_s ?_
            rw [k_X11_panic_168]
            simp (implicitDefEqProofs := false) (disch := omega) only [↓rI_s, ↓rV_s, ↓rI_e, ↓rV_e, zc_eq, zc_ne, zc_lt, zc_ge, zc_gt, zc_le, zlt_t, zlt_f, zle_t, zle_f, zeq_t, zeq_f, lz, zadd, zsub, zmul, zneg, zb_e0, zb_e1, boo0, boo1, ua_s, ua_n, ua_ua, up_s, u2_s, u2_f, u2_c, u2_u2, Int.natCast_add, Int.zero_add, Int.add_zero, ↓reduceIte, ne_eq, not_true_eq_false, not_false_eq_true, Int.natCast_one, ↓zg_59_22, e1, Int.le_refl]
            rfl
          · intro j _ hj _
            refine .inr ⟨(), trivial, ?_⟩
            have hB7 : sP R (B 77) := fun v v0 v1 => by
              rw [hB v (by omega), hB (10 + v) (by omega), hB (30 + v) (by omega)]; exact hV2.1 v v0 v1
            have eo : over R (B 77) j = over R (pnN R F s p (rW R)) j := over_cg (fun v v0 v1 => hB v (by omega)) (by omega) (by omega) (hB _ (by omega))
            have ob := over_b hR.1 hV2.1 (w := j) (by omega) (by omega)
            rw [k_X11_panic_168]
            simp (implicitDefEqProofs := false) (disch := omega) only [↓rI_s, ↓rV_s, ↓rI_e, ↓rV_e, zc_eq, zc_ne, zc_lt, zc_ge, zc_gt, zc_le, zlt_t, zlt_f, zle_t, zle_f, zeq_t, zeq_f, lz, zadd, zsub, zmul, zneg, zb_e0, zb_e1, boo0, boo1, ua_s, ua_n, ua_ua, up_s, u2_s, u2_f, u2_c, u2_u2, Int.natCast_add, Int.zero_add, Int.add_zero, ↓reduceIte, ne_eq, not_true_eq_false, not_false_eq_true, Int.natCast_one, ↓zg_59_22, e1, ↓mc_59]
            rw [m_over (A := B) (by omega) hR2 (hB7.b hR.1) (by omega) (by omega), eo]
            by_cases q : 0 < over R (pnN R F s p (rW R)) j
            · simp (implicitDefEqProofs := false) (disch := omega) only [↓rI_s, ↓rV_s, ↓rI_e, ↓rV_e, zc_eq, zc_ne, zc_lt, zc_ge, zc_gt, zc_le, zlt_t, zlt_f, zle_t, zle_f, zeq_t, zeq_f, lz, zadd, zsub, zmul, zneg, zb_e0, zb_e1, boo0, boo1, ua_s, ua_n, ua_ua, up_s, u2_s, u2_f, u2_c, u2_u2, Int.natCast_add, Int.zero_add, Int.add_zero, ↓reduceIte, ne_eq, not_true_eq_false, not_false_eq_true, Int.natCast_one, ↓k_X11_panic_193]
              rw [cnt_t (p := fun w => decide (0 < over R (pnN R F s p (rW R)) w)) (decide_eq_true q)]
            · simp (implicitDefEqProofs := false) (disch := omega) only [↓rI_s, ↓rV_s, ↓rI_e, ↓rV_e, zc_eq, zc_ne, zc_lt, zc_ge, zc_gt, zc_le, zlt_t, zlt_f, zle_t, zle_f, zeq_t, zeq_f, lz, zadd, zsub, zmul, zneg, zb_e0, zb_e1, boo0, boo1, ua_s, ua_n, ua_ua, up_s, u2_s, u2_f, u2_c, u2_u2, Int.natCast_add, Int.zero_add, Int.add_zero, ↓reduceIte, ne_eq, not_true_eq_false, not_false_eq_true, Int.natCast_one, ↓k_X11_panic_193]
              rw [cnt_f (p := fun w => decide (0 < over R (pnN R F s p (rW R)) w)) (fun q2 => q (of_decide_eq_true q2))]
        · refine mOut.ok (I1 := u2 I 59 0 0) (A1 := B) (fi.refl.f rfl) g1 u2_s ?_
          have : k = 0 ∨ k = 1 := by omega
          rcases this with rfl | rfl
          · simp (implicitDefEqProofs := false) (disch := omega) only [↓rI_s, ↓rV_s, ↓rI_e, ↓rV_e, zc_eq, zc_ne, zc_lt, zc_ge, zc_gt, zc_le, zlt_t, zlt_f, zle_t, zle_f, zeq_t, zeq_f, lz, zadd, zsub, zmul, zneg, zb_e0, zb_e1, boo0, boo1, ua_s, ua_n, ua_ua, up_s, u2_s, u2_f, u2_c, u2_u2, Int.natCast_add, Int.zero_add, Int.add_zero, ↓reduceIte, ne_eq, not_true_eq_false, not_false_eq_true, Int.natCast_one, ↓zg_59_22, e1, Int.le_refl, ↓k_X11_panic_161]; rfl
          · simp (implicitDefEqProofs := false) (disch := omega) only [↓rI_s, ↓rV_s, ↓rI_e, ↓rV_e, zc_eq, zc_ne, zc_lt, zc_ge, zc_gt, zc_le, zlt_t, zlt_f, zle_t, zle_f, zeq_t, zeq_f, lz, zadd, zsub, zmul, zneg, zb_e0, zb_e1, boo0, boo1, ua_s, ua_n, ua_ua, up_s, u2_s, u2_f, u2_c, u2_u2, Int.natCast_add, Int.zero_add, Int.add_zero, ↓reduceIte, ne_eq, not_true_eq_false, not_false_eq_true, Int.natCast_one, ↓zg_59_22, e1, Int.le_refl, ↓k_X11_panic_161]; rfl
      · rintro j ⟨B, l6⟩ hj ⟨g1, g2, hB⟩
        dsimp only at g1 g2 hB ⊢
        have hVj := pnN_V (p := p) hV hR.1 hF j (by omega)
        have hR2 := ((hR.z (g := s)).fr (L := [79]) (fr.refl.a (g := g) rfl) rfl).fr g2 rfl
        have hL2 := ((hL.z (g := s)).fr (L := [79]) (fr.refl.a (g := g) rfl) rfl).fr g2 rfl
        have hB7 : sP R (B 77) := fun v v0 v1 => by
          rw [hB v (by omega), hB (10 + v) (by omega), hB (30 + v) (by omega)]; exact hVj.1 v v0 v1
        have e79 : B 79 j = zb (free R s j) := by
          rw [g2 79 rfl, ua_s]; exact hg j (by omega) (by omega)
        have hag : ∀ i : Int, 0 ≤ i → i < 20 → B 77 i = pnN R F s p j i := fun i _ i1 => hB i (by omega)
        have oj := hR.1.o (w := j) (by omega) (by omega)
        rw [k_X11_panic_54]
        have skip : pnN R F s p (j + 1) = pnN R F s p j → fr Lq A B ∧ fr [72, 73, 77] (ua (ua A 77 s) 79 g) B ∧ ∀ i : Int, (i < 20 ∨ 30 ≤ i ∨ 20 + ((j + 1 : Nat) : Int) ≤ i) → B 77 i = pnN R F s p (j + 1) i := fun ep => ⟨g1, g2, fun i hi => by rw [ep]; exact hB i (by omega)⟩
        by_cases q1 : free R s j
        · rw [zb_t q1] at e79
          simp (implicitDefEqProofs := false) (disch := omega) only [↓rI_s, ↓rV_s, ↓rI_e, ↓rV_e, zc_eq, zc_ne, zc_lt, zc_ge, zc_gt, zc_le, zlt_t, zlt_f, zle_t, zle_f, zeq_t, zeq_f, lz, zadd, zsub, zmul, zneg, zb_e0, zb_e1, boo0, boo1, ua_s, ua_n, ua_ua, up_s, u2_s, u2_f, u2_c, u2_u2, Int.natCast_add, Int.zero_add, Int.add_zero, ↓reduceIte, ne_eq, not_true_eq_false, not_false_eq_true, Int.natCast_one, ↓zg_59_22, e1, ↓zg_59_45, zl_79, e79, ↓mc_59]
          rw [m_canFlick (A := B) (by omega) hR2 (hB7.b hR.1) (by omega) (by omega)]
          have hfc := free_cg hw hag (w := j) (by omega) (by omega)
          by_cases q2 : free R (pnN R F s p j) j
          · rw [zb_t (hfc.mpr q2)]
            obtain ⟨B1, g3, e7, e3⟩ := m_flights (p := p) (h := 0) (W := W) (show 8 ≤ d by omega) hR2 hL2 hB7 (w := j) (by omega) (by omega) (.inl rfl)
            have ed : dn R F (B 77) j p 0 = dn R F (pnN R F s p j) j p 0 := dn_cg (hB _ (by omega)) (hB _ (by omega)) (hB _ (by omega)) (hB _ (by omega)) (hB _ (by omega)) (hB _ (by omega))
            rw [ed, hB j (by omega)] at e7 e3
            have dc := dn_c (s := pnN R F s p j) (w := j) (p := p) (h := 0) hR.1 hF
            have pj0 := q2.1
            have hno : ∀ i : Int, i ≠ 20 + (j : Int) → up (B 77) (20 + j) (B 77 (20 + j) + 1) i = B 77 i := fun i hi => up_n hi
            have fin : (B1 77 j = pnN R F s p (j + 1) j) → ∀ (a : Int) (l6 : Value), q_run qm_X11_panic (q_call q_MT d) 114 [.ref 59, .int (zI p), .int (zI k), .int (zI (many R (pnN R F s p j) (-3) - many R s (-3))), .int (zI (many R (pnN R F s p j) (-2) - many R s (-2))), .int (zI j), l6] [.int (zI (if pnN R F s p (j + 1) j = -3 then 1 else 0)), .int (zI (many R (pnN R F s p j) (-3) - many R s (-3)))] (zM (u2 I 59 0 0) B1 W) = q_run qm_X11_panic (q_call q_MT d) 54 [.ref 59, .int (zI p), .int (zI k), .int (zI (many R (pnN R F s p j) (-3) - many R s (-3) + (if pnN R F s p (j + 1) j = -3 then 1 else 0))), .int (zI (many R (pnN R F s p j) (-2) - many R s (-2) + (if pnN R F s p (j + 1) j = -2 then 1 else 0))), .int (zI ((j : Int) + 1)), l6] [] (zM (u2 I 59 0 0) B1 W) := by
              intro e77 _ l6
              have hV1 := (pnN_V (p := p) hV hR.1 hF (j + 1) (by omega)).1.b hR.1 j (by omega) (by omega)
              rw [k_X11_panic_114]
              by_cases q : pnN R F s p (j + 1) j = -2
              · simp (implicitDefEqProofs := false) (disch := omega) only [↓rI_s, ↓rV_s, ↓rI_e, ↓rV_e, zc_eq, zc_ne, zc_lt, zc_ge, zc_gt, zc_le, zlt_t, zlt_f, zle_t, zle_f, zeq_t, zeq_f, lz, zadd, zsub, zmul, zneg, zb_e0, zb_e1, boo0, boo1, ua_s, ua_n, ua_ua, up_s, u2_s, u2_f, u2_c, u2_u2, Int.natCast_add, Int.zero_add, Int.add_zero, ↓reduceIte, ne_eq, not_true_eq_false, not_false_eq_true, Int.natCast_one, ↓zg_59_43, zl_77, e77, q, ↓k_X11_panic_137, ↓k_X11_panic_140]
              · simp (implicitDefEqProofs := false) (disch := omega) only [↓rI_s, ↓rV_s, ↓rI_e, ↓rV_e, zc_eq, zc_ne, zc_lt, zc_ge, zc_gt, zc_le, zlt_t, zlt_f, zle_t, zle_f, zeq_t, zeq_f, lz, zadd, zsub, zmul, zneg, zb_e0, zb_e1, boo0, boo1, ua_s, ua_n, ua_ua, up_s, u2_s, u2_f, u2_c, u2_u2, Int.natCast_add, Int.zero_add, Int.add_zero, ↓reduceIte, ne_eq, not_true_eq_false, not_false_eq_true, Int.natCast_one, ↓zg_59_43, zl_77, e77, q, ↓k_X11_panic_137, ↓k_X11_panic_140]
            by_cases q3 : dn R F (pnN R F s p j) j p 0 = pnN R F s p j j
            · have ep : pnN R F s p (j + 1) = pnN R F s p j := if_neg fun q => q.2.2 q3
              rw [if_pos q3] at e7 e3
              have e77 : B1 77 j = pnN R F s p (j + 1) j := by rw [e7, hno _ (by omega), ep]; exact hB j (by omega)
              have hf := fin e77 0 l6
              have x3 : (if pnN R F s p (j + 1) j = -3 then (1 : Int) else 0) = 0 := if_neg (by rw [ep]; omega)
              have x2 : (if pnN R F s p (j + 1) j = -2 then (1 : Int) else 0) = 0 := if_neg (by rw [ep]; omega)
              have x9 : ¬ pnN R F s p (j + 1) j = -3 := by rw [ep]; omega
              rw [x3, x2, Int.add_zero, Int.add_zero] at hf
              refine .inr ⟨(B1, l6), ⟨g1.tr (g3.wd rfl), g2.tr g3, fun i hi => ?_⟩, ?_⟩
              · show B1 77 i = _
                rw [e7, hno i (by omega), ep]; exact hB i (by omega)
              · have b7 := (hVj.1.b hR.1 j (by omega) (by omega))
                rw [ep] at e77 ⊢
                simp (implicitDefEqProofs := false) (disch := omega) only [↓rI_s, ↓rV_s, ↓rI_e, ↓rV_e, zc_eq, zc_ne, zc_lt, zc_ge, zc_gt, zc_le, zlt_t, zlt_f, zle_t, zle_f, zeq_t, zeq_f, lz, zadd, zsub, zmul, zneg, zb_e0, zb_e1, boo0, boo1, ua_s, ua_n, ua_ua, up_s, u2_s, u2_f, u2_c, u2_u2, Int.natCast_add, Int.zero_add, Int.add_zero, ↓reduceIte, ne_eq, not_true_eq_false, not_false_eq_true, Int.natCast_one, ↓mc_59, e3, ↓zg_59_43, zl_77, e77]
                exact hf
            · have ep : pnN R F s p (j + 1) = lnd R (pnN R F s p j) j (dn R F (pnN R F s p j) j p 0) := if_pos ⟨q1, q2, q3⟩
              rw [if_neg q3] at e7 e3
              have hag2 : ∀ i : Int, 0 ≤ i → i < 20 → up (B 77) (20 + j) (B 77 (20 + j) + 1) i = pnN R F s p j i := fun i i0 i1 => by rw [hno i (by omega)]; exact hB i (by omega)
              have e77 : B1 77 j = pnN R F s p (j + 1) j := by
                rw [e7, ep]; exact lnd_cg hw (by omega) (by omega) hag2 (hag2 j (by omega) (by omega))
              have hf := fin e77 0 l6
              have m3 := many_ch (R := R) (s := pnN R F s p j) (t := pnN R F s p (j + 1)) (w := j) (by omega) (by omega) (fun v v0 v1 hn => by rw [ep]; exact lnd_p hw (by omega) (by omega) v0 v1 hn) (-3)
              have m2 := many_ch (R := R) (s := pnN R F s p j) (t := pnN R F s p (j + 1)) (w := j) (by omega) (by omega) (fun v v0 v1 hn => by rw [ep]; exact lnd_p hw (by omega) (by omega) v0 v1 hn) (-2)
              rw [if_neg (show ¬ pnN R F s p j j = -3 by omega)] at m3
              rw [if_neg (show ¬ pnN R F s p j j = -2 by omega)] at m2
              rw [show many R (pnN R F s p j) (-3) - many R s (-3) + (if pnN R F s p (j + 1) j = -3 then 1 else 0) = many R (pnN R F s p (j + 1)) (-3) - many R s (-3) by omega, show many R (pnN R F s p j) (-2) - many R s (-2) + (if pnN R F s p (j + 1) j = -2 then 1 else 0) = many R (pnN R F s p (j + 1)) (-2) - many R s (-2) by omega] at hf
              have b7 := (pnN_V (p := p) hV hR.1 hF (j + 1) (by omega)).1.b hR.1 j (by omega) (by omega)
              refine .inr ⟨(B1, l6), ⟨g1.tr (g3.wd rfl), g2.tr g3, fun i hi => ?_⟩, ?_⟩
              · show B1 77 i = _
                rw [e7, ep]
                exact lnd_cg hw (by omega) (by omega) hag2 (by rw [hno i (by omega)]; exact hB i (by omega))
              · by_cases q5 : pnN R F s p (j + 1) j = -3
                · rw [if_pos q5] at hf
                  simp (implicitDefEqProofs := false) (disch := omega) only [↓rI_s, ↓rV_s, ↓rI_e, ↓rV_e, zc_eq, zc_ne, zc_lt, zc_ge, zc_gt, zc_le, zlt_t, zlt_f, zle_t, zle_f, zeq_t, zeq_f, lz, zadd, zsub, zmul, zneg, zb_e0, zb_e1, boo0, boo1, ua_s, ua_n, ua_ua, up_s, u2_s, u2_f, u2_c, u2_u2, Int.natCast_add, Int.zero_add, Int.add_zero, ↓reduceIte, ne_eq, not_true_eq_false, not_false_eq_true, Int.natCast_one, ↓mc_59, e3, ↓zg_59_43, zl_77, e77]
                  exact hf
                · rw [if_neg q5] at hf
                  simp (implicitDefEqProofs := false) (disch := omega) only [↓rI_s, ↓rV_s, ↓rI_e, ↓rV_e, zc_eq, zc_ne, zc_lt, zc_ge, zc_gt, zc_le, zlt_t, zlt_f, zle_t, zle_f, zeq_t, zeq_f, lz, zadd, zsub, zmul, zneg, zb_e0, zb_e1, boo0, boo1, ua_s, ua_n, ua_ua, up_s, u2_s, u2_f, u2_c, u2_u2, Int.natCast_add, Int.zero_add, Int.add_zero, ↓reduceIte, ne_eq, not_true_eq_false, not_false_eq_true, Int.natCast_one, ↓mc_59, e3, ↓zg_59_43, zl_77, e77]
                  exact hf
          · rw [zb_f (fun q => q2 (hfc.mp q))]
            have ep : pnN R F s p (j + 1) = pnN R F s p j := if_neg fun q => q2 q.2.1
            refine .inr ⟨(B, l6), skip ep, ?_⟩
            rw [ep]
            simp (implicitDefEqProofs := false) (disch := omega) only [↓rI_s, ↓rV_s, ↓rI_e, ↓rV_e, zc_eq, zc_ne, zc_lt, zc_ge, zc_gt, zc_le, zlt_t, zlt_f, zle_t, zle_f, zeq_t, zeq_f, lz, zadd, zsub, zmul, zneg, zb_e0, zb_e1, boo0, boo1, ua_s, ua_n, ua_ua, up_s, u2_s, u2_f, u2_c, u2_u2, Int.natCast_add, Int.zero_add, Int.add_zero, ↓reduceIte, ne_eq, not_true_eq_false, not_false_eq_true, Int.natCast_one, ↓k_X11_panic_140]
        · rw [zb_f q1] at e79
          have ep : pnN R F s p (j + 1) = pnN R F s p j := if_neg fun q => q1 q.1
          refine .inr ⟨(B, l6), skip ep, ?_⟩
          rw [ep]
          simp (implicitDefEqProofs := false) (disch := omega) only [↓rI_s, ↓rV_s, ↓rI_e, ↓rV_e, zc_eq, zc_ne, zc_lt, zc_ge, zc_gt, zc_le, zlt_t, zlt_f, zle_t, zle_f, zeq_t, zeq_f, lz, zadd, zsub, zmul, zneg, zb_e0, zb_e1, boo0, boo1, ua_s, ua_n, ua_ua, up_s, u2_s, u2_f, u2_c, u2_u2, Int.natCast_add, Int.zero_add, Int.add_zero, ↓reduceIte, ne_eq, not_true_eq_false, not_false_eq_true, Int.natCast_one, ↓zg_59_22, e1, ↓zg_59_45, zl_79, e79, ↓k_X11_panic_140]
    · rw [if_neg (fun q => c2 q.2)]
      exact mOut.il fr.refl (by simp (implicitDefEqProofs := false) (disch := omega) only [↓rI_s, ↓rV_s, ↓rI_e, ↓rV_e, zc_eq, zc_ne, zc_lt, zc_ge, zc_gt, zc_le, zlt_t, zlt_f, zle_t, zle_f, zeq_t, zeq_f, lz, zadd, zsub, zmul, zneg, zb_e0, zb_e1, boo0, boo1, ua_s, ua_n, ua_ua, up_s, u2_s, u2_f, u2_c, u2_u2, Int.natCast_add, Int.zero_add, Int.add_zero, ↓reduceIte, ne_eq, not_true_eq_false, not_false_eq_true, Int.natCast_one, ↓k_X11_panic_0, ↓k_X11_panic_26, ↓k_X11_panic_27, ↓mc_59, ↓zp_59_0, s_within, s_within_f, s_isPress, s_isPress_f, s_isWink (show 2 ≤ d by omega) hR, s_isWink_f (show 2 ≤ d by omega) hR, s_isHouse (show 2 ≤ d by omega) hR, s_isHouse_f (show 2 ≤ d by omega) hR, s_may1, s_may0, m_take (show 2 ≤ d by omega)])
  · rw [if_neg (fun q => c1 q.1)]
    exact mOut.il fr.refl (by simp (implicitDefEqProofs := false) (disch := omega) only [↓rI_s, ↓rV_s, ↓rI_e, ↓rV_e, zc_eq, zc_ne, zc_lt, zc_ge, zc_gt, zc_le, zlt_t, zlt_f, zle_t, zle_f, zeq_t, zeq_f, lz, zadd, zsub, zmul, zneg, zb_e0, zb_e1, boo0, boo1, ua_s, ua_n, ua_ua, up_s, u2_s, u2_f, u2_c, u2_u2, Int.natCast_add, Int.zero_add, Int.add_zero, ↓reduceIte, ne_eq, not_true_eq_false, not_false_eq_true, Int.natCast_one, ↓k_X11_panic_0, ↓k_X11_panic_26, ↓k_X11_panic_27, ↓mc_59, ↓zp_59_0, s_within, s_within_f, s_isPress, s_isPress_f, s_isWink (show 2 ≤ d by omega) hR, s_isWink_f (show 2 ≤ d by omega) hR, s_isHouse (show 2 ≤ d by omega) hR, s_isHouse_f (show 2 ≤ d by omega) hR, s_may1, s_may0, m_take (show 2 ≤ d by omega)])
end PN
