--DEPS 61.cmut2
theorem over_b {R : zR} {s : Int → Int} {w : Int} (hR : wR R) (hs : sP R s) (h0 : 0 ≤ w) (h1 : w < rW R) : -1010 ≤ over R s w ∧ over R s w ≤ 10 := by
  have := hs w h0 h1
  have m0 := many_lo R s (s w)
  have m1 := many_hi R s (s w)
  have := hR.2.1
  unfold over
  split <;> omega
section CM
variable {d : Nat} {I : Nat → Nat → Int} {A : Nat → Int → Int} {W : qWt} {R : zR} {F : zF} {s : Int → Int} {kx : Nat → Nat → qH → qR} {k : Int32 → qH → qR}
theorem c24_lyingAt {x u : Int} (hd : 1 ≤ d) (hR : cR R I A) (hB : bR R s (A 25) (A 26) (A 27) (A 28) (A 29) (I 24 7) (I 24 8)) (hs : sP R s) (h0 : 0 ≤ x ∧ x ≤ 100) (h1 : -1000 ≤ u ∧ u ≤ 1000) : q_rI (q_call q_MT d 31 [.ref 24, .int (zI x), .int (zI u)] (zM I A W)) kx k = k (zI (who R s x u)) (zM I A W) := by
  obtain ⟨d, rfl⟩ : ∃ e, d = e + 1 := ⟨d - 1, by omega⟩
  have hw := hR.1.2.1
  have hf := hR.1.2.2.2.2.1
  have hc4 := hR.1.2.2.1
  have hn := hR.2.2.1
  refine cI ?_
  rw [cl_X1_lyingAt]
  simp (implicitDefEqProofs := false) (disch := omega) only [↓rI_s, ↓rV_s, ↓rI_e, ↓rV_e, zc_eq, zc_ne, zc_lt, zc_ge, zc_gt, zc_le, zlt_t, zlt_f, zle_t, zle_f, zeq_t, zeq_f, lz, zadd, zsub, zmul, zneg, zb_e0, zb_e1, boo0, boo1, ua_s, ua_n, ua_ua, up_s, u2_s, u2_f, u2_c, u2_u2, Int.natCast_add, Int.zero_add, Int.add_zero, ↓reduceIte, ne_eq, not_true_eq_false, not_false_eq_true, Int.natCast_one, ↓k_X1_lyingAt_0, ↓k_X1_lyingAt_35, ↓zg_24_0, ↓zg_5_1, ↓zg_24_2, zl_25, zs_25, ↓zn_25, ↓zg_24_3, zl_26, zs_26, ↓zn_26]
  refine lp_x (fun j (a : Unit) => q_run qm_X1_lyingAt (q_call q_MT d) 2 [.ref 24, .int (zI x), .int (zI u), .int (zI j)] [] (zM I A W)) (fun j a => ∀ i : Nat, i < j → ¬ decide (s i = x ∧ s (10 + i) = u) = true) (fun r => r = _) (rW R) ?_ ?_ 0 () (by omega) (fun i hi => absurd hi (by omega))
  · intro a ha
    rw [k_X1_lyingAt_2]
    simp (implicitDefEqProofs := false) (disch := omega) only [↓rI_s, ↓rV_s, ↓rI_e, ↓rV_e, zc_eq, zc_ne, zc_lt, zc_ge, zc_gt, zc_le, zlt_t, zlt_f, zle_t, zle_f, zeq_t, zeq_f, lz, zadd, zsub, zmul, zneg, zb_e0, zb_e1, boo0, boo1, ua_s, ua_n, ua_ua, up_s, u2_s, u2_f, u2_c, u2_u2, Int.natCast_add, Int.zero_add, Int.add_zero, ↓reduceIte, ne_eq, not_true_eq_false, not_false_eq_true, Int.natCast_one, ↓k_X1_lyingAt_0, ↓k_X1_lyingAt_35, ↓zg_24_0, ↓zg_5_1, ↓zg_24_2, zl_25, zs_25, ↓zn_25, ↓zg_24_3, zl_26, zs_26, ↓zn_26, hn, Int.le_refl]
    rw [who, fst_no ha]
  · intro j a hj ha
    have bj := hB.1 j (by omega) (by omega)
    have uj := hB.2.1 j (by omega) (by omega)
    have ej := enc_f hs (w := j) (by omega) (by omega)
    have pj := hs j (by omega) (by omega)
    rw [k_X1_lyingAt_2]
    by_cases h : s j = x ∧ s (10 + j) = u
    · refine .inl ?_
      have bj2 : A 25 j = x := by rw [bj, ej.1 (by omega)]; exact h.1
      clear ej
      simp (implicitDefEqProofs := false) (disch := omega) only [↓rI_s, ↓rV_s, ↓rI_e, ↓rV_e, zc_eq, zc_ne, zc_lt, zc_ge, zc_gt, zc_le, zlt_t, zlt_f, zle_t, zle_f, zeq_t, zeq_f, lz, zadd, zsub, zmul, zneg, zb_e0, zb_e1, boo0, boo1, ua_s, ua_n, ua_ua, up_s, u2_s, u2_f, u2_c, u2_u2, Int.natCast_add, Int.zero_add, Int.add_zero, ↓reduceIte, ne_eq, not_true_eq_false, not_false_eq_true, Int.natCast_one, ↓k_X1_lyingAt_0, ↓k_X1_lyingAt_35, ↓zg_24_0, ↓zg_5_1, ↓zg_24_2, zl_25, zs_25, ↓zn_25, ↓zg_24_3, zl_26, zs_26, ↓zn_26, hn, bj2, uj, h.2]
      rw [who, fst_at hj ha (decide_eq_true h)]
    · refine .inr ⟨(), fun i hi => ?_, ?_⟩
      · by_cases e : i = j
        · subst e; simpa using h
        · exact ha i (by omega)
      · by_cases h2 : s j = x
        · have h3 : ¬ s (10 + j) = u := fun q => h ⟨h2, q⟩
          have bj2 : A 25 j = x := by rw [bj, ej.1 (by omega)]; exact h2
          clear ej
          simp (implicitDefEqProofs := false) (disch := omega) only [↓rI_s, ↓rV_s, ↓rI_e, ↓rV_e, zc_eq, zc_ne, zc_lt, zc_ge, zc_gt, zc_le, zlt_t, zlt_f, zle_t, zle_f, zeq_t, zeq_f, lz, zadd, zsub, zmul, zneg, zb_e0, zb_e1, boo0, boo1, ua_s, ua_n, ua_ua, up_s, u2_s, u2_f, u2_c, u2_u2, Int.natCast_add, Int.zero_add, Int.add_zero, ↓reduceIte, ne_eq, not_true_eq_false, not_false_eq_true, Int.natCast_one, ↓k_X1_lyingAt_0, ↓k_X1_lyingAt_35, ↓zg_24_0, ↓zg_5_1, ↓zg_24_2, zl_25, zs_25, ↓zn_25, ↓zg_24_3, zl_26, zs_26, ↓zn_26, hn, bj2, uj]
        · simp (implicitDefEqProofs := false) (disch := omega) only [↓rI_s, ↓rV_s, ↓rI_e, ↓rV_e, zc_eq, zc_ne, zc_lt, zc_ge, zc_gt, zc_le, zlt_t, zlt_f, zle_t, zle_f, zeq_t, zeq_f, lz, zadd, zsub, zmul, zneg, zb_e0, zb_e1, boo0, boo1, ua_s, ua_n, ua_ua, up_s, u2_s, u2_f, u2_c, u2_u2, Int.natCast_add, Int.zero_add, Int.add_zero, ↓reduceIte, ne_eq, not_true_eq_false, not_false_eq_true, Int.natCast_one, ↓k_X1_lyingAt_0, ↓k_X1_lyingAt_35, ↓zg_24_0, ↓zg_5_1, ↓zg_24_2, zl_25, zs_25, ↓zn_25, ↓zg_24_3, zl_26, zs_26, ↓zn_26, hn]
theorem c24_payRent {w : Int} (hd : 2 ≤ d) (hR : cR R I A) (hB : bR R s (A 25) (A 26) (A 27) (A 28) (A 29) (I 24 7) (I 24 8)) (hs : sP R s) (hV : sV R s) (h0 : 0 ≤ w) (h1 : w < rW R) (ho : 0 < over R s w) : ∃ A', fr [28] A A' ∧ bR R (pss R s w) (A' 25) (A' 26) (A' 27) (A' 28) (A' 29) (I 24 7) (I 24 8) ∧ q_call q_MT d 44 [.ref 24, .int (zI w)] (zM I A W) = some (.inl none, zM I A' W) := by
  obtain ⟨d, rfl⟩ : ∃ e, d = e + 1 := ⟨d - 1, by omega⟩
  have hw := hR.1.2.1
  have h5 := hR.1.1
  have hf := hR.1.2.2.2.2.1
  have hp : 0 ≤ s w := by
    unfold over at ho
    split at ho <;> omega
  have pw := hs w h0 h1
  have bw := hB.1 w h0 h1
  rw [(enc_f hs h0 h1).1 hp] at bw
  have uw := hB.2.1 w h0 h1
  have ow := hR.1.o h0 h1
  have eo := hR.2.2.2.2.2.2.1 w h0 h1
  have bo := hB.2.2.2.1 (rO R w) ow.1 ow.2
  have po := hV.2.2.2.2 (rO R w) ow.1 ow.2
  have m1 := many_hi R s (s w)
  have m0 := many_lo R s (s w)
  have eov : over R s w = many R s (s w) - 1 - s (10 + w) := by unfold over; rw [if_neg (by omega)]
  obtain ⟨t, ht, ew, -, -⟩ := who_at hV hR.1 h0 h1 hp
  have ot := hR.1.o (w := t) (by omega) (by omega)
  have et := hR.2.2.2.2.2.2.1 t (by omega) (by omega)
  have bt := hB.2.2.2.1 (rO R t) ot.1 ot.2
  have pt := hV.2.2.2.2 (rO R t) ot.1 ot.2
  rw [cl_X1_payRent]
  simp (implicitDefEqProofs := false) (disch := omega) only [↓rI_s, ↓rV_s, ↓rI_e, ↓rV_e, zc_eq, zc_ne, zc_lt, zc_ge, zc_gt, zc_le, zlt_t, zlt_f, zle_t, zle_f, zeq_t, zeq_f, lz, zadd, zsub, zmul, zneg, zb_e0, zb_e1, boo0, boo1, ua_s, ua_n, ua_ua, up_s, u2_s, u2_f, u2_c, u2_u2, Int.natCast_add, Int.zero_add, Int.add_zero, ↓reduceIte, ne_eq, not_true_eq_false, not_false_eq_true, Int.natCast_one, ↓k_X1_payRent_0, ↓k_X1_payRent_48, ↓zg_24_0, ↓zg_5_6, zl_7, zs_7, ↓zn_7, ↓zg_24_2, zl_25, zs_25, ↓zn_25, ↓zg_24_3, zl_26, zs_26, ↓zn_26, ↓mc_24, ↓mc_30, ↓zg_24_5, zl_28, zs_28, ↓zn_28, eo, bw, uw]
  rw [c24_onTopOf (by omega) hR hB hs h0 h1]
  simp (implicitDefEqProofs := false) (disch := omega) only [↓rI_s, ↓rV_s, ↓rI_e, ↓rV_e, zc_eq, zc_ne, zc_lt, zc_ge, zc_gt, zc_le, zlt_t, zlt_f, zle_t, zle_f, zeq_t, zeq_f, lz, zadd, zsub, zmul, zneg, zb_e0, zb_e1, boo0, boo1, ua_s, ua_n, ua_ua, up_s, u2_s, u2_f, u2_c, u2_u2, Int.natCast_add, Int.zero_add, Int.add_zero, ↓reduceIte, ne_eq, not_true_eq_false, not_false_eq_true, Int.natCast_one, ↓k_X1_payRent_0, ↓k_X1_payRent_48, ↓zg_24_0, ↓zg_5_6, zl_7, zs_7, ↓zn_7, ↓zg_24_2, zl_25, zs_25, ↓zn_25, ↓zg_24_3, zl_26, zs_26, ↓zn_26, ↓mc_24, ↓mc_30, ↓zg_24_5, zl_28, zs_28, ↓zn_28]
  rw [c24_lyingAt (by omega) hR hB hs (by omega) (by omega), show s (10 + w) + over R s w = many R s (s w) - 1 by omega, ew]
  by_cases q : s (40 + rO R w) = 0
  · refine ⟨A, fr.refl, ?_, ?_⟩
    · rw [pss, if_pos (.inr (.inr q))]; exact hB
    · simp (implicitDefEqProofs := false) (disch := omega) only [↓rI_s, ↓rV_s, ↓rI_e, ↓rV_e, zc_eq, zc_ne, zc_lt, zc_ge, zc_gt, zc_le, zlt_t, zlt_f, zle_t, zle_f, zeq_t, zeq_f, lz, zadd, zsub, zmul, zneg, zb_e0, zb_e1, boo0, boo1, ua_s, ua_n, ua_ua, up_s, u2_s, u2_f, u2_c, u2_u2, Int.natCast_add, Int.zero_add, Int.add_zero, ↓reduceIte, ne_eq, not_true_eq_false, not_false_eq_true, Int.natCast_one, ↓k_X1_payRent_0, ↓k_X1_payRent_48, ↓zg_24_0, ↓zg_5_6, zl_7, zs_7, ↓zn_7, ↓zg_24_2, zl_25, zs_25, ↓zn_25, ↓zg_24_3, zl_26, zs_26, ↓zn_26, ↓mc_24, ↓mc_30, ↓zg_24_5, zl_28, zs_28, ↓zn_28, bo]
  · refine ⟨ua A 28 (up (up (A 28) (rO R w) (s (40 + rO R w) - 1)) (rO R t) (if 9999 < up (A 28) (rO R w) (s (40 + rO R w) - 1) (rO R t) + 1 then 9999 else up (A 28) (rO R w) (s (40 + rO R w) - 1) (rO R t) + 1)), fr.refl.a rfl, ?_, ?_⟩
    · rw [pss, if_neg (by omega), ew]
      have b2 := (hB.co (h := rO R w) (v := s (40 + rO R w) - 1) hR.1 ow.1 ow.2)
      have e2 := b2.2.2.2.1 (rO R t) ot.1 ot.2
      rw [ern, ← e2]
      exact b2.co hR.1 ot.1 ot.2
    · have pq : -1 ≤ up (A 28) (rO R w) (s (40 + rO R w) - 1) (rO R t) ∧ up (A 28) (rO R w) (s (40 + rO R w) - 1) (rO R t) ≤ 9999 := by
        unfold up; split <;> omega
      simp (implicitDefEqProofs := false) (disch := omega) only [↓rI_s, ↓rV_s, ↓rI_e, ↓rV_e, zc_eq, zc_ne, zc_lt, zc_ge, zc_gt, zc_le, zlt_t, zlt_f, zle_t, zle_f, zeq_t, zeq_f, lz, zadd, zsub, zmul, zneg, zb_e0, zb_e1, boo0, boo1, ua_s, ua_n, ua_ua, up_s, u2_s, u2_f, u2_c, u2_u2, Int.natCast_add, Int.zero_add, Int.add_zero, ↓reduceIte, ne_eq, not_true_eq_false, not_false_eq_true, Int.natCast_one, ↓k_X1_payRent_0, ↓k_X1_payRent_48, ↓zg_24_0, ↓zg_5_6, zl_7, zs_7, ↓zn_7, ↓zg_24_2, zl_25, zs_25, ↓zn_25, ↓zg_24_3, zl_26, zs_26, ↓zn_26, ↓mc_24, ↓mc_30, ↓zg_24_5, zl_28, zs_28, ↓zn_28, bo, et, zif]
theorem c24_passDay (hd : 3 ≤ d) (hR : cR R I A) (hB : bR R s (A 25) (A 26) (A 27) (A 28) (A 29) (I 24 7) (I 24 8)) (hs : sP R s) (hV : sV R s) : ∃ A', fr [28] A A' ∧ bR R (pas R s) (A' 25) (A' 26) (A' 27) (A' 28) (A' 29) (I 24 7 + 1) (I 24 8) ∧ q_call q_MT d 43 [.ref 24] (zM I A W) = some (.inl none, zM (u2 I 24 7 (I 24 7 + 1)) A' W) := by
  obtain ⟨d, rfl⟩ : ∃ e, d = e + 1 := ⟨d - 1, by omega⟩
  have hw := hR.1.2.1
  have h5 := hR.1.1
  have hn := hR.2.2.1
  rw [cl_X1_passDay]
  simp (implicitDefEqProofs := false) (disch := omega) only [↓rI_s, ↓rV_s, ↓rI_e, ↓rV_e, zc_eq, zc_ne, zc_lt, zc_ge, zc_gt, zc_le, zlt_t, zlt_f, zle_t, zle_f, zeq_t, zeq_f, lz, zadd, zsub, zmul, zneg, zb_e0, zb_e1, boo0, boo1, ua_s, ua_n, ua_ua, up_s, u2_s, u2_f, u2_c, u2_u2, Int.natCast_add, Int.zero_add, Int.add_zero, ↓reduceIte, ne_eq, not_true_eq_false, not_false_eq_true, Int.natCast_one, ↓k_X1_passDay_0, ↓k_X1_passDay_26, ↓zg_24_0, ↓zg_5_1, ↓mc_24, ↓mc_30, ↓zg_24_7, zp_24_7]
  refine lp_x (fun j (B : Nat → Int → Int) => q_run qm_X1_passDay (q_call q_MT d) 2 [.ref 24, .int (zI j)] [] (zM I B W)) (fun j B => fr [28] A B ∧ bR R (pssN R s j) (B 25) (B 26) (B 27) (B 28) (B 29) (I 24 7) (I 24 8)) (fun r => ∃ A', fr [28] A A' ∧ bR R (pas R s) (A' 25) (A' 26) (A' 27) (A' 28) (A' 29) (I 24 7 + 1) (I 24 8) ∧ r = some (.inl none, zM (u2 I 24 7 (I 24 7 + 1)) A' W)) (rW R) ?_ ?_ 0 A (by omega) ⟨fr.refl, hB⟩
  · rintro B ⟨f, b⟩
    refine ⟨B, f, ?_, ?_⟩
    · obtain ⟨b1, b2, b3, b4, b5, b6, b7⟩ := b
      unfold pas
      refine ⟨fun v v0 v1 => ?_, fun v v0 v1 => ?_, fun v v0 v1 => ?_, fun k k0 k1 => ?_, fun y y0 y1 => ?_, ?_, ?_⟩
      · rw [up_n (by omega), up_n (by omega)]; exact b1 v v0 v1
      · rw [up_n (by omega)]; exact b2 v v0 v1
      · rw [up_n (by omega)]; exact b3 v v0 v1
      · rw [up_n (by omega)]; exact b4 k k0 k1
      · rw [b5 y y0 y1]; exact many_cg (fun v v0 v1 => by rw [up_n (by omega)]) y
      · rw [up_s, b6]
      · rw [up_n (by decide)]; exact b7
    · rw [k_X1_passDay_2]
      simp (implicitDefEqProofs := false) (disch := omega) only [↓rI_s, ↓rV_s, ↓rI_e, ↓rV_e, zc_eq, zc_ne, zc_lt, zc_ge, zc_gt, zc_le, zlt_t, zlt_f, zle_t, zle_f, zeq_t, zeq_f, lz, zadd, zsub, zmul, zneg, zb_e0, zb_e1, boo0, boo1, ua_s, ua_n, ua_ua, up_s, u2_s, u2_f, u2_c, u2_u2, Int.natCast_add, Int.zero_add, Int.add_zero, ↓reduceIte, ne_eq, not_true_eq_false, not_false_eq_true, Int.natCast_one, ↓k_X1_passDay_0, ↓k_X1_passDay_26, ↓zg_24_0, ↓zg_5_1, ↓mc_24, ↓mc_30, ↓zg_24_7, zp_24_7, hn, Int.le_refl]
  · rintro j B hj ⟨f, b⟩
    refine .inr ?_
    have vj := (pss_i hV hR.1 j (by omega)).1
    have rj := hR.fr f rfl
    have oj := over_b hR.1 vj.1 (w := j) (by omega) (by omega)
    rw [k_X1_passDay_2]
    by_cases q : 0 < over R (pssN R s j) j
    · obtain ⟨B', f', b', e'⟩ := c24_payRent (W := W) (show 2 ≤ d by omega) rj b vj.1 vj (w := j) (by omega) (by omega) q
      refine ⟨B', ⟨f.tr f', b'⟩, ?_⟩
      simp (implicitDefEqProofs := false) (disch := omega) only [↓rI_s, ↓rV_s, ↓rI_e, ↓rV_e, zc_eq, zc_ne, zc_lt, zc_ge, zc_gt, zc_le, zlt_t, zlt_f, zle_t, zle_f, zeq_t, zeq_f, lz, zadd, zsub, zmul, zneg, zb_e0, zb_e1, boo0, boo1, ua_s, ua_n, ua_ua, up_s, u2_s, u2_f, u2_c, u2_u2, Int.natCast_add, Int.zero_add, Int.add_zero, ↓reduceIte, ne_eq, not_true_eq_false, not_false_eq_true, Int.natCast_one, ↓k_X1_passDay_0, ↓k_X1_passDay_26, ↓zg_24_0, ↓zg_5_1, ↓mc_24, ↓mc_30, ↓zg_24_7, zp_24_7, hn]
      rw [c24_isFrozen (by omega) rj b vj.1 (by omega) (by omega), zb_t q]
      simp (implicitDefEqProofs := false) (disch := omega) only [↓rI_s, ↓rV_s, ↓rI_e, ↓rV_e, zc_eq, zc_ne, zc_lt, zc_ge, zc_gt, zc_le, zlt_t, zlt_f, zle_t, zle_f, zeq_t, zeq_f, lz, zadd, zsub, zmul, zneg, zb_e0, zb_e1, boo0, boo1, ua_s, ua_n, ua_ua, up_s, u2_s, u2_f, u2_c, u2_u2, Int.natCast_add, Int.zero_add, Int.add_zero, ↓reduceIte, ne_eq, not_true_eq_false, not_false_eq_true, Int.natCast_one, ↓k_X1_passDay_0, ↓k_X1_passDay_26, ↓zg_24_0, ↓zg_5_1, ↓mc_24, ↓mc_30, ↓zg_24_7, zp_24_7, e']
    · refine ⟨B, ⟨f, ?_⟩, ?_⟩
      · have e : pssN R s (j + 1) = pssN R s j := by
          show pss R (pssN R s j) j = _
          unfold pss
          refine if_pos ?_
          by_cases q2 : pssN R s j j < 0
          · exact .inl q2
          · have := vj.2.1 j (by omega) (by omega) (by omega)
            have : over R (pssN R s j) j = many R (pssN R s j) (pssN R s j j) - 1 - pssN R s j (10 + j) := by unfold over; rw [if_neg q2]
            omega
        rw [e]; exact b
      · simp (implicitDefEqProofs := false) (disch := omega) only [↓rI_s, ↓rV_s, ↓rI_e, ↓rV_e, zc_eq, zc_ne, zc_lt, zc_ge, zc_gt, zc_le, zlt_t, zlt_f, zle_t, zle_f, zeq_t, zeq_f, lz, zadd, zsub, zmul, zneg, zb_e0, zb_e1, boo0, boo1, ua_s, ua_n, ua_ua, up_s, u2_s, u2_f, u2_c, u2_u2, Int.natCast_add, Int.zero_add, Int.add_zero, ↓reduceIte, ne_eq, not_true_eq_false, not_false_eq_true, Int.natCast_one, ↓k_X1_passDay_0, ↓k_X1_passDay_26, ↓zg_24_0, ↓zg_5_1, ↓mc_24, ↓mc_30, ↓zg_24_7, zp_24_7, hn]
        rw [c24_isFrozen (by omega) rj b vj.1 (by omega) (by omega), zb_f q]
        simp (implicitDefEqProofs := false) (disch := omega) only [↓rI_s, ↓rV_s, ↓rI_e, ↓rV_e, zc_eq, zc_ne, zc_lt, zc_ge, zc_gt, zc_le, zlt_t, zlt_f, zle_t, zle_f, zeq_t, zeq_f, lz, zadd, zsub, zmul, zneg, zb_e0, zb_e1, boo0, boo1, ua_s, ua_n, ua_ua, up_s, u2_s, u2_f, u2_c, u2_u2, Int.natCast_add, Int.zero_add, Int.add_zero, ↓reduceIte, ne_eq, not_true_eq_false, not_false_eq_true, Int.natCast_one, ↓k_X1_passDay_0, ↓k_X1_passDay_26, ↓zg_24_0, ↓zg_5_1, ↓mc_24, ↓mc_30, ↓zg_24_7, zp_24_7]
theorem c24_shakeAll (hd : 4 ≤ d) (hR : cR R I A) (hB : bR R s (A 25) (A 26) (A 27) (A 28) (A 29) (I 24 7) (I 24 8)) (hs : sP R s) (hV : sV R s) : ∃ A', fr [25, 26, 29] A A' ∧ bR R (shk R s) (A' 25) (A' 26) (A' 27) (A' 28) (A' 29) (I 24 7) (I 24 8) ∧ q_call q_MT d 41 [.ref 24] (zM I A W) = some (.inl (some (.int (zI (zb (bts (rW R) (fun w => decide (free R s w)) ≠ 0))))), zM I A' W) := by
  obtain ⟨d, rfl⟩ : ∃ e, d = e + 1 := ⟨d - 1, by omega⟩
  have hw := hR.1.2.1
  have hn := hR.2.2.1
  have bb := bts_b hw fun w => decide (free R s w)
  rw [cl_X1_shakeAll]
  simp (implicitDefEqProofs := false) (disch := omega) only [↓rI_s, ↓rV_s, ↓rI_e, ↓rV_e, zc_eq, zc_ne, zc_lt, zc_ge, zc_gt, zc_le, zlt_t, zlt_f, zle_t, zle_f, zeq_t, zeq_f, lz, zadd, zsub, zmul, zneg, zb_e0, zb_e1, boo0, boo1, ua_s, ua_n, ua_ua, up_s, u2_s, u2_f, u2_c, u2_u2, Int.natCast_add, Int.zero_add, Int.add_zero, ↓reduceIte, ne_eq, not_true_eq_false, not_false_eq_true, Int.natCast_one, ↓k_X1_shakeAll_0, ↓k_X1_shakeAll_34, ↓k_X1_shakeAll_49, ↓mc_24, ↓mc_30, ↓zg_24_0, ↓zg_5_1]
  rw [c24_freeBits (by omega) hR hB hs]
  generalize hm : bts (rW R) (fun w => decide (free R s w)) = m at bb
  refine lp_x (fun j (B : Nat → Int → Int) => q_run qm_X1_shakeAll (q_call q_MT d) 7 [.ref 24, .int (zI m), .int (zI j)] [] (zM I B W)) (fun j B => fr [25, 26, 29] A B ∧ bR R (shkN R s j) (B 25) (B 26) (B 27) (B 28) (B 29) (I 24 7) (I 24 8)) (fun r => ∃ A', fr [25, 26, 29] A A' ∧ bR R (shk R s) (A' 25) (A' 26) (A' 27) (A' 28) (A' 29) (I 24 7) (I 24 8) ∧ r = some (.inl (some (.int (zI (zb (m ≠ 0))))), zM I A' W)) (rW R) ?_ ?_ 0 A (by omega) ⟨fr.refl, hB⟩
  · rintro B ⟨f, b⟩
    refine ⟨B, f, b, ?_⟩
    rw [k_X1_shakeAll_7]
    by_cases q : m = 0
    · rw [zb_f (fun q2 => q2 q)]
      simp (implicitDefEqProofs := false) (disch := omega) only [↓rI_s, ↓rV_s, ↓rI_e, ↓rV_e, zc_eq, zc_ne, zc_lt, zc_ge, zc_gt, zc_le, zlt_t, zlt_f, zle_t, zle_f, zeq_t, zeq_f, lz, zadd, zsub, zmul, zneg, zb_e0, zb_e1, boo0, boo1, ua_s, ua_n, ua_ua, up_s, u2_s, u2_f, u2_c, u2_u2, Int.natCast_add, Int.zero_add, Int.add_zero, ↓reduceIte, ne_eq, not_true_eq_false, not_false_eq_true, Int.natCast_one, ↓k_X1_shakeAll_0, ↓k_X1_shakeAll_34, ↓k_X1_shakeAll_49, ↓mc_24, ↓mc_30, ↓zg_24_0, ↓zg_5_1, hn, Int.le_refl, q]
    · rw [zb_t q]
      simp (implicitDefEqProofs := false) (disch := omega) only [↓rI_s, ↓rV_s, ↓rI_e, ↓rV_e, zc_eq, zc_ne, zc_lt, zc_ge, zc_gt, zc_le, zlt_t, zlt_f, zle_t, zle_f, zeq_t, zeq_f, lz, zadd, zsub, zmul, zneg, zb_e0, zb_e1, boo0, boo1, ua_s, ua_n, ua_ua, up_s, u2_s, u2_f, u2_c, u2_u2, Int.natCast_add, Int.zero_add, Int.add_zero, ↓reduceIte, ne_eq, not_true_eq_false, not_false_eq_true, Int.natCast_one, ↓k_X1_shakeAll_0, ↓k_X1_shakeAll_34, ↓k_X1_shakeAll_49, ↓mc_24, ↓mc_30, ↓zg_24_0, ↓zg_5_1, hn, Int.le_refl]
  · rintro j B hj ⟨f, b⟩
    refine .inr ?_
    have vj := shk_i hV hR.1 j (by omega)
    have rj := hR.fr f rfl
    have ej := vj.2 j (by omega) (by omega)
    have pj := (hs j (by omega) (by omega)).1
    have hf := hR.1.2.2.2.2.1
    have hbit := bts_bit (p := fun w => decide (free R s w)) hw hj
    rw [hm] at hbit
    rw [k_X1_shakeAll_7]
    by_cases q : free R s j
    · obtain ⟨B', f', b', e'⟩ := c24_fly (f := 1) (W := W) (show 2 ≤ d by omega) rj b vj.1.1 (w := j) (by omega) (by omega) (by rw [ej]; exact q.1) (by decide) (by decide)
      refine ⟨B', ⟨f.tr f', ?_⟩, ?_⟩
      · have e : shkN R s (j + 1) = lnd R (shkN R s j) j (if rF R ≤ shkN R s j j + 1 then -2 else shkN R s j j + 1) := if_pos q
        have e2 : (if shkN R s j j + 1 < 0 ∨ rF R ≤ shkN R s j j + 1 then -2 else shkN R s j j + 1) = if rF R ≤ shkN R s j j + 1 then -2 else shkN R s j j + 1 := by
          have := q.1
          split <;> split <;> omega
        rw [e, ← e2]; exact b'
      · rw [if_pos (decide_eq_true q)] at hbit
        simp (implicitDefEqProofs := false) (disch := omega) only [↓rI_s, ↓rV_s, ↓rI_e, ↓rV_e, zc_eq, zc_ne, zc_lt, zc_ge, zc_gt, zc_le, zlt_t, zlt_f, zle_t, zle_f, zeq_t, zeq_f, lz, zadd, zsub, zmul, zneg, zb_e0, zb_e1, boo0, boo1, ua_s, ua_n, ua_ua, up_s, u2_s, u2_f, u2_c, u2_u2, Int.natCast_add, Int.zero_add, Int.add_zero, ↓reduceIte, ne_eq, not_true_eq_false, not_false_eq_true, Int.natCast_one, ↓k_X1_shakeAll_0, ↓k_X1_shakeAll_34, ↓k_X1_shakeAll_49, ↓mc_24, ↓mc_30, ↓zg_24_0, ↓zg_5_1, hn, hbit, e']
    · refine ⟨B, ⟨f, ?_⟩, ?_⟩
      · have e : shkN R s (j + 1) = shkN R s j := if_neg q
        rw [e]; exact b
      · rw [if_neg (fun q2 => q (of_decide_eq_true q2))] at hbit
        simp (implicitDefEqProofs := false) (disch := omega) only [↓rI_s, ↓rV_s, ↓rI_e, ↓rV_e, zc_eq, zc_ne, zc_lt, zc_ge, zc_gt, zc_le, zlt_t, zlt_f, zle_t, zle_f, zeq_t, zeq_f, lz, zadd, zsub, zmul, zneg, zb_e0, zb_e1, boo0, boo1, ua_s, ua_n, ua_ua, up_s, u2_s, u2_f, u2_c, u2_u2, Int.natCast_add, Int.zero_add, Int.add_zero, ↓reduceIte, ne_eq, not_true_eq_false, not_false_eq_true, Int.natCast_one, ↓k_X1_shakeAll_0, ↓k_X1_shakeAll_34, ↓k_X1_shakeAll_49, ↓mc_24, ↓mc_30, ↓zg_24_0, ↓zg_5_1, hn, hbit]
theorem c24_dampen {n : Int} (hd : 1 ≤ d) (hB : bR R s (A 25) (A 26) (A 27) (A 28) (A 29) (I 24 7) (I 24 8)) : q_call q_MT d 40 [.ref 24, .int (zI n)] (zM I A W) = some (.inl (some (.int (zI (zb (zI (s 46) ≠ zI n))))), zM (u2 I 24 8 n) A W) := by
  obtain ⟨d, rfl⟩ : ∃ e, d = e + 1 := ⟨d - 1, by omega⟩
  have b7 := hB.2.2.2.2.2.2
  rw [cl_X1_dampen]
  by_cases q : zI (s 46) = zI n
  · rw [zb_f (fun q2 => q2 q)]
    simp (implicitDefEqProofs := false) (disch := omega) only [↓rI_s, ↓rV_s, ↓rI_e, ↓rV_e, zc_eq, zc_ne, zc_lt, zc_ge, zc_gt, zc_le, zlt_t, zlt_f, zle_t, zle_f, zeq_t, zeq_f, lz, zadd, zsub, zmul, zneg, zb_e0, zb_e1, boo0, boo1, ua_s, ua_n, ua_ua, up_s, u2_s, u2_f, u2_c, u2_u2, Int.natCast_add, Int.zero_add, Int.add_zero, ↓reduceIte, ne_eq, not_true_eq_false, not_false_eq_true, Int.natCast_one, ↓k_X1_dampen_0, ↓k_X1_dampen_13, ↓zg_24_8, zp_24_8, b7, q]
  · rw [zb_t q]
    simp (implicitDefEqProofs := false) (disch := omega) only [↓rI_s, ↓rV_s, ↓rI_e, ↓rV_e, zc_eq, zc_ne, zc_lt, zc_ge, zc_gt, zc_le, zlt_t, zlt_f, zle_t, zle_f, zeq_t, zeq_f, lz, zadd, zsub, zmul, zneg, zb_e0, zb_e1, boo0, boo1, ua_s, ua_n, ua_ua, up_s, u2_s, u2_f, u2_c, u2_u2, Int.natCast_add, Int.zero_add, Int.add_zero, ↓reduceIte, ne_eq, not_true_eq_false, not_false_eq_true, Int.natCast_one, ↓k_X1_dampen_0, ↓k_X1_dampen_13, ↓zg_24_8, zp_24_8, b7, q]
theorem c24_endDay (hd : 4 ≤ d) (hR : cR R I A) (hB : bR R s (A 25) (A 26) (A 27) (A 28) (A 29) (I 24 7) (I 24 8)) (hs : sP R s) (hV : sV R s) (hD : 0 ≤ s 45 ∧ s 45 ≤ 500) : ∃ I' A', (I' = I ∨ I' = u2 I 24 7 (I 24 7 + 1)) ∧ fr [28] A A' ∧ bR R (if s 45 = 500 then s else pas R s) (A' 25) (A' 26) (A' 27) (A' 28) (A' 29) (I' 24 7) (I' 24 8) ∧ q_call q_MT d 42 [.ref 24] (zM I A W) = some (.inl (some (.int (zI (zb (s 45 ≠ 500))))), zM I' A' W) := by
  obtain ⟨d, rfl⟩ : ∃ e, d = e + 1 := ⟨d - 1, by omega⟩
  have b6 := hB.2.2.2.2.2.1
  rw [cl_X1_endDay]
  by_cases q : s 45 = 500
  · refine ⟨I, A, .inl rfl, fr.refl, ?_, ?_⟩
    · rw [if_pos q]; exact hB
    · rw [zb_f (fun q2 => q2 q)]
      simp (implicitDefEqProofs := false) (disch := omega) only [↓rI_s, ↓rV_s, ↓rI_e, ↓rV_e, zc_eq, zc_ne, zc_lt, zc_ge, zc_gt, zc_le, zlt_t, zlt_f, zle_t, zle_f, zeq_t, zeq_f, lz, zadd, zsub, zmul, zneg, zb_e0, zb_e1, boo0, boo1, ua_s, ua_n, ua_ua, up_s, u2_s, u2_f, u2_c, u2_u2, Int.natCast_add, Int.zero_add, Int.add_zero, ↓reduceIte, ne_eq, not_true_eq_false, not_false_eq_true, Int.natCast_one, ↓k_X1_endDay_0, ↓zg_24_7, ↓mc_24, ↓mc_30, b6]
  · obtain ⟨A', f, b, e⟩ := c24_passDay (W := W) (show 3 ≤ d by omega) hR hB hs hV
    refine ⟨_, A', .inr rfl, f, ?_, ?_⟩
    · rw [if_neg q, u2_s, u2_f (by decide)]; exact b
    · rw [zb_t q]
      simp (implicitDefEqProofs := false) (disch := omega) only [↓rI_s, ↓rV_s, ↓rI_e, ↓rV_e, zc_eq, zc_ne, zc_lt, zc_ge, zc_gt, zc_le, zlt_t, zlt_f, zle_t, zle_f, zeq_t, zeq_f, lz, zadd, zsub, zmul, zneg, zb_e0, zb_e1, boo0, boo1, ua_s, ua_n, ua_ua, up_s, u2_s, u2_f, u2_c, u2_u2, Int.natCast_add, Int.zero_add, Int.add_zero, ↓reduceIte, ne_eq, not_true_eq_false, not_false_eq_true, Int.natCast_one, ↓k_X1_endDay_0, ↓zg_24_7, ↓mc_24, ↓mc_30, b6, e]
theorem c30_lyingAt {x u : Int} (hd : 1 ≤ d) (hR : cR R I A) (hB : bR R s (A 31) (A 32) (A 33) (A 34) (A 35) (I 30 7) (I 30 8)) (hs : sP R s) (h0 : 0 ≤ x ∧ x ≤ 100) (h1 : -1000 ≤ u ∧ u ≤ 1000) : q_rI (q_call q_MT d 31 [.ref 30, .int (zI x), .int (zI u)] (zM I A W)) kx k = k (zI (who R s x u)) (zM I A W) := by
  obtain ⟨d, rfl⟩ : ∃ e, d = e + 1 := ⟨d - 1, by omega⟩
  have hw := hR.1.2.1
  have hf := hR.1.2.2.2.2.1
  have hc4 := hR.1.2.2.1
  have hn := hR.2.2.1
  refine cI ?_
  rw [cl_X1_lyingAt]
  simp (implicitDefEqProofs := false) (disch := omega) only [↓rI_s, ↓rV_s, ↓rI_e, ↓rV_e, zc_eq, zc_ne, zc_lt, zc_ge, zc_gt, zc_le, zlt_t, zlt_f, zle_t, zle_f, zeq_t, zeq_f, lz, zadd, zsub, zmul, zneg, zb_e0, zb_e1, boo0, boo1, ua_s, ua_n, ua_ua, up_s, u2_s, u2_f, u2_c, u2_u2, Int.natCast_add, Int.zero_add, Int.add_zero, ↓reduceIte, ne_eq, not_true_eq_false, not_false_eq_true, Int.natCast_one, ↓k_X1_lyingAt_0, ↓k_X1_lyingAt_35, ↓zg_30_0, ↓zg_5_1, ↓zg_30_2, zl_31, zs_31, ↓zn_31, ↓zg_30_3, zl_32, zs_32, ↓zn_32]
  refine lp_x (fun j (a : Unit) => q_run qm_X1_lyingAt (q_call q_MT d) 2 [.ref 30, .int (zI x), .int (zI u), .int (zI j)] [] (zM I A W)) (fun j a => ∀ i : Nat, i < j → ¬ decide (s i = x ∧ s (10 + i) = u) = true) (fun r => r = _) (rW R) ?_ ?_ 0 () (by omega) (fun i hi => absurd hi (by omega))
  · intro a ha
    rw [k_X1_lyingAt_2]
    simp (implicitDefEqProofs := false) (disch := omega) only [↓rI_s, ↓rV_s, ↓rI_e, ↓rV_e, zc_eq, zc_ne, zc_lt, zc_ge, zc_gt, zc_le, zlt_t, zlt_f, zle_t, zle_f, zeq_t, zeq_f, lz, zadd, zsub, zmul, zneg, zb_e0, zb_e1, boo0, boo1, ua_s, ua_n, ua_ua, up_s, u2_s, u2_f, u2_c, u2_u2, Int.natCast_add, Int.zero_add, Int.add_zero, ↓reduceIte, ne_eq, not_true_eq_false, not_false_eq_true, Int.natCast_one, ↓k_X1_lyingAt_0, ↓k_X1_lyingAt_35, ↓zg_30_0, ↓zg_5_1, ↓zg_30_2, zl_31, zs_31, ↓zn_31, ↓zg_30_3, zl_32, zs_32, ↓zn_32, hn, Int.le_refl]
    rw [who, fst_no ha]
  · intro j a hj ha
    have bj := hB.1 j (by omega) (by omega)
    have uj := hB.2.1 j (by omega) (by omega)
    have ej := enc_f hs (w := j) (by omega) (by omega)
    have pj := hs j (by omega) (by omega)
    rw [k_X1_lyingAt_2]
    by_cases h : s j = x ∧ s (10 + j) = u
    · refine .inl ?_
      have bj2 : A 31 j = x := by rw [bj, ej.1 (by omega)]; exact h.1
      clear ej
      simp (implicitDefEqProofs := false) (disch := omega) only [↓rI_s, ↓rV_s, ↓rI_e, ↓rV_e, zc_eq, zc_ne, zc_lt, zc_ge, zc_gt, zc_le, zlt_t, zlt_f, zle_t, zle_f, zeq_t, zeq_f, lz, zadd, zsub, zmul, zneg, zb_e0, zb_e1, boo0, boo1, ua_s, ua_n, ua_ua, up_s, u2_s, u2_f, u2_c, u2_u2, Int.natCast_add, Int.zero_add, Int.add_zero, ↓reduceIte, ne_eq, not_true_eq_false, not_false_eq_true, Int.natCast_one, ↓k_X1_lyingAt_0, ↓k_X1_lyingAt_35, ↓zg_30_0, ↓zg_5_1, ↓zg_30_2, zl_31, zs_31, ↓zn_31, ↓zg_30_3, zl_32, zs_32, ↓zn_32, hn, bj2, uj, h.2]
      rw [who, fst_at hj ha (decide_eq_true h)]
    · refine .inr ⟨(), fun i hi => ?_, ?_⟩
      · by_cases e : i = j
        · subst e; simpa using h
        · exact ha i (by omega)
      · by_cases h2 : s j = x
        · have h3 : ¬ s (10 + j) = u := fun q => h ⟨h2, q⟩
          have bj2 : A 31 j = x := by rw [bj, ej.1 (by omega)]; exact h2
          clear ej
          simp (implicitDefEqProofs := false) (disch := omega) only [↓rI_s, ↓rV_s, ↓rI_e, ↓rV_e, zc_eq, zc_ne, zc_lt, zc_ge, zc_gt, zc_le, zlt_t, zlt_f, zle_t, zle_f, zeq_t, zeq_f, lz, zadd, zsub, zmul, zneg, zb_e0, zb_e1, boo0, boo1, ua_s, ua_n, ua_ua, up_s, u2_s, u2_f, u2_c, u2_u2, Int.natCast_add, Int.zero_add, Int.add_zero, ↓reduceIte, ne_eq, not_true_eq_false, not_false_eq_true, Int.natCast_one, ↓k_X1_lyingAt_0, ↓k_X1_lyingAt_35, ↓zg_30_0, ↓zg_5_1, ↓zg_30_2, zl_31, zs_31, ↓zn_31, ↓zg_30_3, zl_32, zs_32, ↓zn_32, hn, bj2, uj]
        · simp (implicitDefEqProofs := false) (disch := omega) only [↓rI_s, ↓rV_s, ↓rI_e, ↓rV_e, zc_eq, zc_ne, zc_lt, zc_ge, zc_gt, zc_le, zlt_t, zlt_f, zle_t, zle_f, zeq_t, zeq_f, lz, zadd, zsub, zmul, zneg, zb_e0, zb_e1, boo0, boo1, ua_s, ua_n, ua_ua, up_s, u2_s, u2_f, u2_c, u2_u2, Int.natCast_add, Int.zero_add, Int.add_zero, ↓reduceIte, ne_eq, not_true_eq_false, not_false_eq_true, Int.natCast_one, ↓k_X1_lyingAt_0, ↓k_X1_lyingAt_35, ↓zg_30_0, ↓zg_5_1, ↓zg_30_2, zl_31, zs_31, ↓zn_31, ↓zg_30_3, zl_32, zs_32, ↓zn_32, hn]
theorem c30_payRent {w : Int} (hd : 2 ≤ d) (hR : cR R I A) (hB : bR R s (A 31) (A 32) (A 33) (A 34) (A 35) (I 30 7) (I 30 8)) (hs : sP R s) (hV : sV R s) (h0 : 0 ≤ w) (h1 : w < rW R) (ho : 0 < over R s w) : ∃ A', fr [34] A A' ∧ bR R (pss R s w) (A' 31) (A' 32) (A' 33) (A' 34) (A' 35) (I 30 7) (I 30 8) ∧ q_call q_MT d 44 [.ref 30, .int (zI w)] (zM I A W) = some (.inl none, zM I A' W) := by
  obtain ⟨d, rfl⟩ : ∃ e, d = e + 1 := ⟨d - 1, by omega⟩
  have hw := hR.1.2.1
  have h5 := hR.1.1
  have hf := hR.1.2.2.2.2.1
  have hp : 0 ≤ s w := by
    unfold over at ho
    split at ho <;> omega
  have pw := hs w h0 h1
  have bw := hB.1 w h0 h1
  rw [(enc_f hs h0 h1).1 hp] at bw
  have uw := hB.2.1 w h0 h1
  have ow := hR.1.o h0 h1
  have eo := hR.2.2.2.2.2.2.1 w h0 h1
  have bo := hB.2.2.2.1 (rO R w) ow.1 ow.2
  have po := hV.2.2.2.2 (rO R w) ow.1 ow.2
  have m1 := many_hi R s (s w)
  have m0 := many_lo R s (s w)
  have eov : over R s w = many R s (s w) - 1 - s (10 + w) := by unfold over; rw [if_neg (by omega)]
  obtain ⟨t, ht, ew, -, -⟩ := who_at hV hR.1 h0 h1 hp
  have ot := hR.1.o (w := t) (by omega) (by omega)
  have et := hR.2.2.2.2.2.2.1 t (by omega) (by omega)
  have bt := hB.2.2.2.1 (rO R t) ot.1 ot.2
  have pt := hV.2.2.2.2 (rO R t) ot.1 ot.2
  rw [cl_X1_payRent]
  simp (implicitDefEqProofs := false) (disch := omega) only [↓rI_s, ↓rV_s, ↓rI_e, ↓rV_e, zc_eq, zc_ne, zc_lt, zc_ge, zc_gt, zc_le, zlt_t, zlt_f, zle_t, zle_f, zeq_t, zeq_f, lz, zadd, zsub, zmul, zneg, zb_e0, zb_e1, boo0, boo1, ua_s, ua_n, ua_ua, up_s, u2_s, u2_f, u2_c, u2_u2, Int.natCast_add, Int.zero_add, Int.add_zero, ↓reduceIte, ne_eq, not_true_eq_false, not_false_eq_true, Int.natCast_one, ↓k_X1_payRent_0, ↓k_X1_payRent_48, ↓zg_30_0, ↓zg_5_6, zl_7, zs_7, ↓zn_7, ↓zg_30_2, zl_31, zs_31, ↓zn_31, ↓zg_30_3, zl_32, zs_32, ↓zn_32, ↓mc_24, ↓mc_30, ↓zg_30_5, zl_34, zs_34, ↓zn_34, eo, bw, uw]
  rw [c30_onTopOf (by omega) hR hB hs h0 h1]
  simp (implicitDefEqProofs := false) (disch := omega) only [↓rI_s, ↓rV_s, ↓rI_e, ↓rV_e, zc_eq, zc_ne, zc_lt, zc_ge, zc_gt, zc_le, zlt_t, zlt_f, zle_t, zle_f, zeq_t, zeq_f, lz, zadd, zsub, zmul, zneg, zb_e0, zb_e1, boo0, boo1, ua_s, ua_n, ua_ua, up_s, u2_s, u2_f, u2_c, u2_u2, Int.natCast_add, Int.zero_add, Int.add_zero, ↓reduceIte, ne_eq, not_true_eq_false, not_false_eq_true, Int.natCast_one, ↓k_X1_payRent_0, ↓k_X1_payRent_48, ↓zg_30_0, ↓zg_5_6, zl_7, zs_7, ↓zn_7, ↓zg_30_2, zl_31, zs_31, ↓zn_31, ↓zg_30_3, zl_32, zs_32, ↓zn_32, ↓mc_24, ↓mc_30, ↓zg_30_5, zl_34, zs_34, ↓zn_34]
  rw [c30_lyingAt (by omega) hR hB hs (by omega) (by omega), show s (10 + w) + over R s w = many R s (s w) - 1 by omega, ew]
  by_cases q : s (40 + rO R w) = 0
  · refine ⟨A, fr.refl, ?_, ?_⟩
    · rw [pss, if_pos (.inr (.inr q))]; exact hB
    · simp (implicitDefEqProofs := false) (disch := omega) only [↓rI_s, ↓rV_s, ↓rI_e, ↓rV_e, zc_eq, zc_ne, zc_lt, zc_ge, zc_gt, zc_le, zlt_t, zlt_f, zle_t, zle_f, zeq_t, zeq_f, lz, zadd, zsub, zmul, zneg, zb_e0, zb_e1, boo0, boo1, ua_s, ua_n, ua_ua, up_s, u2_s, u2_f, u2_c, u2_u2, Int.natCast_add, Int.zero_add, Int.add_zero, ↓reduceIte, ne_eq, not_true_eq_false, not_false_eq_true, Int.natCast_one, ↓k_X1_payRent_0, ↓k_X1_payRent_48, ↓zg_30_0, ↓zg_5_6, zl_7, zs_7, ↓zn_7, ↓zg_30_2, zl_31, zs_31, ↓zn_31, ↓zg_30_3, zl_32, zs_32, ↓zn_32, ↓mc_24, ↓mc_30, ↓zg_30_5, zl_34, zs_34, ↓zn_34, bo]
  · refine ⟨ua A 34 (up (up (A 34) (rO R w) (s (40 + rO R w) - 1)) (rO R t) (if 9999 < up (A 34) (rO R w) (s (40 + rO R w) - 1) (rO R t) + 1 then 9999 else up (A 34) (rO R w) (s (40 + rO R w) - 1) (rO R t) + 1)), fr.refl.a rfl, ?_, ?_⟩
    · rw [pss, if_neg (by omega), ew]
      have b2 := (hB.co (h := rO R w) (v := s (40 + rO R w) - 1) hR.1 ow.1 ow.2)
      have e2 := b2.2.2.2.1 (rO R t) ot.1 ot.2
      rw [ern, ← e2]
      exact b2.co hR.1 ot.1 ot.2
    · have pq : -1 ≤ up (A 34) (rO R w) (s (40 + rO R w) - 1) (rO R t) ∧ up (A 34) (rO R w) (s (40 + rO R w) - 1) (rO R t) ≤ 9999 := by
        unfold up; split <;> omega
      simp (implicitDefEqProofs := false) (disch := omega) only [↓rI_s, ↓rV_s, ↓rI_e, ↓rV_e, zc_eq, zc_ne, zc_lt, zc_ge, zc_gt, zc_le, zlt_t, zlt_f, zle_t, zle_f, zeq_t, zeq_f, lz, zadd, zsub, zmul, zneg, zb_e0, zb_e1, boo0, boo1, ua_s, ua_n, ua_ua, up_s, u2_s, u2_f, u2_c, u2_u2, Int.natCast_add, Int.zero_add, Int.add_zero, ↓reduceIte, ne_eq, not_true_eq_false, not_false_eq_true, Int.natCast_one, ↓k_X1_payRent_0, ↓k_X1_payRent_48, ↓zg_30_0, ↓zg_5_6, zl_7, zs_7, ↓zn_7, ↓zg_30_2, zl_31, zs_31, ↓zn_31, ↓zg_30_3, zl_32, zs_32, ↓zn_32, ↓mc_24, ↓mc_30, ↓zg_30_5, zl_34, zs_34, ↓zn_34, bo, et, zif]
theorem c30_passDay (hd : 3 ≤ d) (hR : cR R I A) (hB : bR R s (A 31) (A 32) (A 33) (A 34) (A 35) (I 30 7) (I 30 8)) (hs : sP R s) (hV : sV R s) : ∃ A', fr [34] A A' ∧ bR R (pas R s) (A' 31) (A' 32) (A' 33) (A' 34) (A' 35) (I 30 7 + 1) (I 30 8) ∧ q_call q_MT d 43 [.ref 30] (zM I A W) = some (.inl none, zM (u2 I 30 7 (I 30 7 + 1)) A' W) := by
  obtain ⟨d, rfl⟩ : ∃ e, d = e + 1 := ⟨d - 1, by omega⟩
  have hw := hR.1.2.1
  have h5 := hR.1.1
  have hn := hR.2.2.1
  rw [cl_X1_passDay]
  simp (implicitDefEqProofs := false) (disch := omega) only [↓rI_s, ↓rV_s, ↓rI_e, ↓rV_e, zc_eq, zc_ne, zc_lt, zc_ge, zc_gt, zc_le, zlt_t, zlt_f, zle_t, zle_f, zeq_t, zeq_f, lz, zadd, zsub, zmul, zneg, zb_e0, zb_e1, boo0, boo1, ua_s, ua_n, ua_ua, up_s, u2_s, u2_f, u2_c, u2_u2, Int.natCast_add, Int.zero_add, Int.add_zero, ↓reduceIte, ne_eq, not_true_eq_false, not_false_eq_true, Int.natCast_one, ↓k_X1_passDay_0, ↓k_X1_passDay_26, ↓zg_30_0, ↓zg_5_1, ↓mc_24, ↓mc_30, ↓zg_30_7, zp_30_7]
  refine lp_x (fun j (B : Nat → Int → Int) => q_run qm_X1_passDay (q_call q_MT d) 2 [.ref 30, .int (zI j)] [] (zM I B W)) (fun j B => fr [34] A B ∧ bR R (pssN R s j) (B 31) (B 32) (B 33) (B 34) (B 35) (I 30 7) (I 30 8)) (fun r => ∃ A', fr [34] A A' ∧ bR R (pas R s) (A' 31) (A' 32) (A' 33) (A' 34) (A' 35) (I 30 7 + 1) (I 30 8) ∧ r = some (.inl none, zM (u2 I 30 7 (I 30 7 + 1)) A' W)) (rW R) ?_ ?_ 0 A (by omega) ⟨fr.refl, hB⟩
  · rintro B ⟨f, b⟩
    refine ⟨B, f, ?_, ?_⟩
    · obtain ⟨b1, b2, b3, b4, b5, b6, b7⟩ := b
      unfold pas
      refine ⟨fun v v0 v1 => ?_, fun v v0 v1 => ?_, fun v v0 v1 => ?_, fun k k0 k1 => ?_, fun y y0 y1 => ?_, ?_, ?_⟩
      · rw [up_n (by omega), up_n (by omega)]; exact b1 v v0 v1
      · rw [up_n (by omega)]; exact b2 v v0 v1
      · rw [up_n (by omega)]; exact b3 v v0 v1
      · rw [up_n (by omega)]; exact b4 k k0 k1
      · rw [b5 y y0 y1]; exact many_cg (fun v v0 v1 => by rw [up_n (by omega)]) y
      · rw [up_s, b6]
      · rw [up_n (by decide)]; exact b7
    · rw [k_X1_passDay_2]
      simp (implicitDefEqProofs := false) (disch := omega) only [↓rI_s, ↓rV_s, ↓rI_e, ↓rV_e, zc_eq, zc_ne, zc_lt, zc_ge, zc_gt, zc_le, zlt_t, zlt_f, zle_t, zle_f, zeq_t, zeq_f, lz, zadd, zsub, zmul, zneg, zb_e0, zb_e1, boo0, boo1, ua_s, ua_n, ua_ua, up_s, u2_s, u2_f, u2_c, u2_u2, Int.natCast_add, Int.zero_add, Int.add_zero, ↓reduceIte, ne_eq, not_true_eq_false, not_false_eq_true, Int.natCast_one, ↓k_X1_passDay_0, ↓k_X1_passDay_26, ↓zg_30_0, ↓zg_5_1, ↓mc_24, ↓mc_30, ↓zg_30_7, zp_30_7, hn, Int.le_refl]
  · rintro j B hj ⟨f, b⟩
    refine .inr ?_
    have vj := (pss_i hV hR.1 j (by omega)).1
    have rj := hR.fr f rfl
    have oj := over_b hR.1 vj.1 (w := j) (by omega) (by omega)
    rw [k_X1_passDay_2]
    by_cases q : 0 < over R (pssN R s j) j
    · obtain ⟨B', f', b', e'⟩ := c30_payRent (W := W) (show 2 ≤ d by omega) rj b vj.1 vj (w := j) (by omega) (by omega) q
      refine ⟨B', ⟨f.tr f', b'⟩, ?_⟩
      simp (implicitDefEqProofs := false) (disch := omega) only [↓rI_s, ↓rV_s, ↓rI_e, ↓rV_e, zc_eq, zc_ne, zc_lt, zc_ge, zc_gt, zc_le, zlt_t, zlt_f, zle_t, zle_f, zeq_t, zeq_f, lz, zadd, zsub, zmul, zneg, zb_e0, zb_e1, boo0, boo1, ua_s, ua_n, ua_ua, up_s, u2_s, u2_f, u2_c, u2_u2, Int.natCast_add, Int.zero_add, Int.add_zero, ↓reduceIte, ne_eq, not_true_eq_false, not_false_eq_true, Int.natCast_one, ↓k_X1_passDay_0, ↓k_X1_passDay_26, ↓zg_30_0, ↓zg_5_1, ↓mc_24, ↓mc_30, ↓zg_30_7, zp_30_7, hn]
      rw [c30_isFrozen (by omega) rj b vj.1 (by omega) (by omega), zb_t q]
      simp (implicitDefEqProofs := false) (disch := omega) only [↓rI_s, ↓rV_s, ↓rI_e, ↓rV_e, zc_eq, zc_ne, zc_lt, zc_ge, zc_gt, zc_le, zlt_t, zlt_f, zle_t, zle_f, zeq_t, zeq_f, lz, zadd, zsub, zmul, zneg, zb_e0, zb_e1, boo0, boo1, ua_s, ua_n, ua_ua, up_s, u2_s, u2_f, u2_c, u2_u2, Int.natCast_add, Int.zero_add, Int.add_zero, ↓reduceIte, ne_eq, not_true_eq_false, not_false_eq_true, Int.natCast_one, ↓k_X1_passDay_0, ↓k_X1_passDay_26, ↓zg_30_0, ↓zg_5_1, ↓mc_24, ↓mc_30, ↓zg_30_7, zp_30_7, e']
    · refine ⟨B, ⟨f, ?_⟩, ?_⟩
      · have e : pssN R s (j + 1) = pssN R s j := by
          show pss R (pssN R s j) j = _
          unfold pss
          refine if_pos ?_
          by_cases q2 : pssN R s j j < 0
          · exact .inl q2
          · have := vj.2.1 j (by omega) (by omega) (by omega)
            have : over R (pssN R s j) j = many R (pssN R s j) (pssN R s j j) - 1 - pssN R s j (10 + j) := by unfold over; rw [if_neg q2]
            omega
        rw [e]; exact b
      · simp (implicitDefEqProofs := false) (disch := omega) only [↓rI_s, ↓rV_s, ↓rI_e, ↓rV_e, zc_eq, zc_ne, zc_lt, zc_ge, zc_gt, zc_le, zlt_t, zlt_f, zle_t, zle_f, zeq_t, zeq_f, lz, zadd, zsub, zmul, zneg, zb_e0, zb_e1, boo0, boo1, ua_s, ua_n, ua_ua, up_s, u2_s, u2_f, u2_c, u2_u2, Int.natCast_add, Int.zero_add, Int.add_zero, ↓reduceIte, ne_eq, not_true_eq_false, not_false_eq_true, Int.natCast_one, ↓k_X1_passDay_0, ↓k_X1_passDay_26, ↓zg_30_0, ↓zg_5_1, ↓mc_24, ↓mc_30, ↓zg_30_7, zp_30_7, hn]
        rw [c30_isFrozen (by omega) rj b vj.1 (by omega) (by omega), zb_f q]
        simp (implicitDefEqProofs := false) (disch := omega) only [↓rI_s, ↓rV_s, ↓rI_e, ↓rV_e, zc_eq, zc_ne, zc_lt, zc_ge, zc_gt, zc_le, zlt_t, zlt_f, zle_t, zle_f, zeq_t, zeq_f, lz, zadd, zsub, zmul, zneg, zb_e0, zb_e1, boo0, boo1, ua_s, ua_n, ua_ua, up_s, u2_s, u2_f, u2_c, u2_u2, Int.natCast_add, Int.zero_add, Int.add_zero, ↓reduceIte, ne_eq, not_true_eq_false, not_false_eq_true, Int.natCast_one, ↓k_X1_passDay_0, ↓k_X1_passDay_26, ↓zg_30_0, ↓zg_5_1, ↓mc_24, ↓mc_30, ↓zg_30_7, zp_30_7]
theorem c30_shakeAll (hd : 4 ≤ d) (hR : cR R I A) (hB : bR R s (A 31) (A 32) (A 33) (A 34) (A 35) (I 30 7) (I 30 8)) (hs : sP R s) (hV : sV R s) : ∃ A', fr [31, 32, 35] A A' ∧ bR R (shk R s) (A' 31) (A' 32) (A' 33) (A' 34) (A' 35) (I 30 7) (I 30 8) ∧ q_call q_MT d 41 [.ref 30] (zM I A W) = some (.inl (some (.int (zI (zb (bts (rW R) (fun w => decide (free R s w)) ≠ 0))))), zM I A' W) := by
  obtain ⟨d, rfl⟩ : ∃ e, d = e + 1 := ⟨d - 1, by omega⟩
  have hw := hR.1.2.1
  have hn := hR.2.2.1
  have bb := bts_b hw fun w => decide (free R s w)
  rw [cl_X1_shakeAll]
  simp (implicitDefEqProofs := false) (disch := omega) only [↓rI_s, ↓rV_s, ↓rI_e, ↓rV_e, zc_eq, zc_ne, zc_lt, zc_ge, zc_gt, zc_le, zlt_t, zlt_f, zle_t, zle_f, zeq_t, zeq_f, lz, zadd, zsub, zmul, zneg, zb_e0, zb_e1, boo0, boo1, ua_s, ua_n, ua_ua, up_s, u2_s, u2_f, u2_c, u2_u2, Int.natCast_add, Int.zero_add, Int.add_zero, ↓reduceIte, ne_eq, not_true_eq_false, not_false_eq_true, Int.natCast_one, ↓k_X1_shakeAll_0, ↓k_X1_shakeAll_34, ↓k_X1_shakeAll_49, ↓mc_24, ↓mc_30, ↓zg_30_0, ↓zg_5_1]
  rw [c30_freeBits (by omega) hR hB hs]
  generalize hm : bts (rW R) (fun w => decide (free R s w)) = m at bb
  refine lp_x (fun j (B : Nat → Int → Int) => q_run qm_X1_shakeAll (q_call q_MT d) 7 [.ref 30, .int (zI m), .int (zI j)] [] (zM I B W)) (fun j B => fr [31, 32, 35] A B ∧ bR R (shkN R s j) (B 31) (B 32) (B 33) (B 34) (B 35) (I 30 7) (I 30 8)) (fun r => ∃ A', fr [31, 32, 35] A A' ∧ bR R (shk R s) (A' 31) (A' 32) (A' 33) (A' 34) (A' 35) (I 30 7) (I 30 8) ∧ r = some (.inl (some (.int (zI (zb (m ≠ 0))))), zM I A' W)) (rW R) ?_ ?_ 0 A (by omega) ⟨fr.refl, hB⟩
  · rintro B ⟨f, b⟩
    refine ⟨B, f, b, ?_⟩
    rw [k_X1_shakeAll_7]
    by_cases q : m = 0
    · rw [zb_f (fun q2 => q2 q)]
      simp (implicitDefEqProofs := false) (disch := omega) only [↓rI_s, ↓rV_s, ↓rI_e, ↓rV_e, zc_eq, zc_ne, zc_lt, zc_ge, zc_gt, zc_le, zlt_t, zlt_f, zle_t, zle_f, zeq_t, zeq_f, lz, zadd, zsub, zmul, zneg, zb_e0, zb_e1, boo0, boo1, ua_s, ua_n, ua_ua, up_s, u2_s, u2_f, u2_c, u2_u2, Int.natCast_add, Int.zero_add, Int.add_zero, ↓reduceIte, ne_eq, not_true_eq_false, not_false_eq_true, Int.natCast_one, ↓k_X1_shakeAll_0, ↓k_X1_shakeAll_34, ↓k_X1_shakeAll_49, ↓mc_24, ↓mc_30, ↓zg_30_0, ↓zg_5_1, hn, Int.le_refl, q]
    · rw [zb_t q]
      simp (implicitDefEqProofs := false) (disch := omega) only [↓rI_s, ↓rV_s, ↓rI_e, ↓rV_e, zc_eq, zc_ne, zc_lt, zc_ge, zc_gt, zc_le, zlt_t, zlt_f, zle_t, zle_f, zeq_t, zeq_f, lz, zadd, zsub, zmul, zneg, zb_e0, zb_e1, boo0, boo1, ua_s, ua_n, ua_ua, up_s, u2_s, u2_f, u2_c, u2_u2, Int.natCast_add, Int.zero_add, Int.add_zero, ↓reduceIte, ne_eq, not_true_eq_false, not_false_eq_true, Int.natCast_one, ↓k_X1_shakeAll_0, ↓k_X1_shakeAll_34, ↓k_X1_shakeAll_49, ↓mc_24, ↓mc_30, ↓zg_30_0, ↓zg_5_1, hn, Int.le_refl]
  · rintro j B hj ⟨f, b⟩
    refine .inr ?_
    have vj := shk_i hV hR.1 j (by omega)
    have rj := hR.fr f rfl
    have ej := vj.2 j (by omega) (by omega)
    have pj := (hs j (by omega) (by omega)).1
    have hf := hR.1.2.2.2.2.1
    have hbit := bts_bit (p := fun w => decide (free R s w)) hw hj
    rw [hm] at hbit
    rw [k_X1_shakeAll_7]
    by_cases q : free R s j
    · obtain ⟨B', f', b', e'⟩ := c30_fly (f := 1) (W := W) (show 2 ≤ d by omega) rj b vj.1.1 (w := j) (by omega) (by omega) (by rw [ej]; exact q.1) (by decide) (by decide)
      refine ⟨B', ⟨f.tr f', ?_⟩, ?_⟩
      · have e : shkN R s (j + 1) = lnd R (shkN R s j) j (if rF R ≤ shkN R s j j + 1 then -2 else shkN R s j j + 1) := if_pos q
        have e2 : (if shkN R s j j + 1 < 0 ∨ rF R ≤ shkN R s j j + 1 then -2 else shkN R s j j + 1) = if rF R ≤ shkN R s j j + 1 then -2 else shkN R s j j + 1 := by
          have := q.1
          split <;> split <;> omega
        rw [e, ← e2]; exact b'
      · rw [if_pos (decide_eq_true q)] at hbit
        simp (implicitDefEqProofs := false) (disch := omega) only [↓rI_s, ↓rV_s, ↓rI_e, ↓rV_e, zc_eq, zc_ne, zc_lt, zc_ge, zc_gt, zc_le, zlt_t, zlt_f, zle_t, zle_f, zeq_t, zeq_f, lz, zadd, zsub, zmul, zneg, zb_e0, zb_e1, boo0, boo1, ua_s, ua_n, ua_ua, up_s, u2_s, u2_f, u2_c, u2_u2, Int.natCast_add, Int.zero_add, Int.add_zero, ↓reduceIte, ne_eq, not_true_eq_false, not_false_eq_true, Int.natCast_one, ↓k_X1_shakeAll_0, ↓k_X1_shakeAll_34, ↓k_X1_shakeAll_49, ↓mc_24, ↓mc_30, ↓zg_30_0, ↓zg_5_1, hn, hbit, e']
    · refine ⟨B, ⟨f, ?_⟩, ?_⟩
      · have e : shkN R s (j + 1) = shkN R s j := if_neg q
        rw [e]; exact b
      · rw [if_neg (fun q2 => q (of_decide_eq_true q2))] at hbit
        simp (implicitDefEqProofs := false) (disch := omega) only [↓rI_s, ↓rV_s, ↓rI_e, ↓rV_e, zc_eq, zc_ne, zc_lt, zc_ge, zc_gt, zc_le, zlt_t, zlt_f, zle_t, zle_f, zeq_t, zeq_f, lz, zadd, zsub, zmul, zneg, zb_e0, zb_e1, boo0, boo1, ua_s, ua_n, ua_ua, up_s, u2_s, u2_f, u2_c, u2_u2, Int.natCast_add, Int.zero_add, Int.add_zero, ↓reduceIte, ne_eq, not_true_eq_false, not_false_eq_true, Int.natCast_one, ↓k_X1_shakeAll_0, ↓k_X1_shakeAll_34, ↓k_X1_shakeAll_49, ↓mc_24, ↓mc_30, ↓zg_30_0, ↓zg_5_1, hn, hbit]
theorem c30_dampen {n : Int} (hd : 1 ≤ d) (hB : bR R s (A 31) (A 32) (A 33) (A 34) (A 35) (I 30 7) (I 30 8)) : q_call q_MT d 40 [.ref 30, .int (zI n)] (zM I A W) = some (.inl (some (.int (zI (zb (zI (s 46) ≠ zI n))))), zM (u2 I 30 8 n) A W) := by
  obtain ⟨d, rfl⟩ : ∃ e, d = e + 1 := ⟨d - 1, by omega⟩
  have b7 := hB.2.2.2.2.2.2
  rw [cl_X1_dampen]
  by_cases q : zI (s 46) = zI n
  · rw [zb_f (fun q2 => q2 q)]
    simp (implicitDefEqProofs := false) (disch := omega) only [↓rI_s, ↓rV_s, ↓rI_e, ↓rV_e, zc_eq, zc_ne, zc_lt, zc_ge, zc_gt, zc_le, zlt_t, zlt_f, zle_t, zle_f, zeq_t, zeq_f, lz, zadd, zsub, zmul, zneg, zb_e0, zb_e1, boo0, boo1, ua_s, ua_n, ua_ua, up_s, u2_s, u2_f, u2_c, u2_u2, Int.natCast_add, Int.zero_add, Int.add_zero, ↓reduceIte, ne_eq, not_true_eq_false, not_false_eq_true, Int.natCast_one, ↓k_X1_dampen_0, ↓k_X1_dampen_13, ↓zg_30_8, zp_30_8, b7, q]
  · rw [zb_t q]
    simp (implicitDefEqProofs := false) (disch := omega) only [↓rI_s, ↓rV_s, ↓rI_e, ↓rV_e, zc_eq, zc_ne, zc_lt, zc_ge, zc_gt, zc_le, zlt_t, zlt_f, zle_t, zle_f, zeq_t, zeq_f, lz, zadd, zsub, zmul, zneg, zb_e0, zb_e1, boo0, boo1, ua_s, ua_n, ua_ua, up_s, u2_s, u2_f, u2_c, u2_u2, Int.natCast_add, Int.zero_add, Int.add_zero, ↓reduceIte, ne_eq, not_true_eq_false, not_false_eq_true, Int.natCast_one, ↓k_X1_dampen_0, ↓k_X1_dampen_13, ↓zg_30_8, zp_30_8, b7, q]
theorem c30_endDay (hd : 4 ≤ d) (hR : cR R I A) (hB : bR R s (A 31) (A 32) (A 33) (A 34) (A 35) (I 30 7) (I 30 8)) (hs : sP R s) (hV : sV R s) (hD : 0 ≤ s 45 ∧ s 45 ≤ 500) : ∃ I' A', (I' = I ∨ I' = u2 I 30 7 (I 30 7 + 1)) ∧ fr [34] A A' ∧ bR R (if s 45 = 500 then s else pas R s) (A' 31) (A' 32) (A' 33) (A' 34) (A' 35) (I' 30 7) (I' 30 8) ∧ q_call q_MT d 42 [.ref 30] (zM I A W) = some (.inl (some (.int (zI (zb (s 45 ≠ 500))))), zM I' A' W) := by
  obtain ⟨d, rfl⟩ : ∃ e, d = e + 1 := ⟨d - 1, by omega⟩
  have b6 := hB.2.2.2.2.2.1
  rw [cl_X1_endDay]
  by_cases q : s 45 = 500
  · refine ⟨I, A, .inl rfl, fr.refl, ?_, ?_⟩
    · rw [if_pos q]; exact hB
    · rw [zb_f (fun q2 => q2 q)]
      simp (implicitDefEqProofs := false) (disch := omega) only [↓rI_s, ↓rV_s, ↓rI_e, ↓rV_e, zc_eq, zc_ne, zc_lt, zc_ge, zc_gt, zc_le, zlt_t, zlt_f, zle_t, zle_f, zeq_t, zeq_f, lz, zadd, zsub, zmul, zneg, zb_e0, zb_e1, boo0, boo1, ua_s, ua_n, ua_ua, up_s, u2_s, u2_f, u2_c, u2_u2, Int.natCast_add, Int.zero_add, Int.add_zero, ↓reduceIte, ne_eq, not_true_eq_false, not_false_eq_true, Int.natCast_one, ↓k_X1_endDay_0, ↓zg_30_7, ↓mc_24, ↓mc_30, b6]
  · obtain ⟨A', f, b, e⟩ := c30_passDay (W := W) (show 3 ≤ d by omega) hR hB hs hV
    refine ⟨_, A', .inr rfl, f, ?_, ?_⟩
    · rw [if_neg q, u2_s, u2_f (by decide)]; exact b
    · rw [zb_t q]
      simp (implicitDefEqProofs := false) (disch := omega) only [↓rI_s, ↓rV_s, ↓rI_e, ↓rV_e, zc_eq, zc_ne, zc_lt, zc_ge, zc_gt, zc_le, zlt_t, zlt_f, zle_t, zle_f, zeq_t, zeq_f, lz, zadd, zsub, zmul, zneg, zb_e0, zb_e1, boo0, boo1, ua_s, ua_n, ua_ua, up_s, u2_s, u2_f, u2_c, u2_u2, Int.natCast_add, Int.zero_add, Int.add_zero, ↓reduceIte, ne_eq, not_true_eq_false, not_false_eq_true, Int.natCast_one, ↓k_X1_endDay_0, ↓zg_30_7, ↓mc_24, ↓mc_30, b6, e]
end CM
