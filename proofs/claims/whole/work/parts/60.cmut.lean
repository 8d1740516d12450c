--DEPS 59.row2
/-! The class changes a board. -/
theorem lnd1_t {s : Int → Int} {w : Int} {j : Nat} (h : s j = s w ∧ s (10 + w) < s (10 + j)) : up (lnd1 j s w) (10 + j) (s (10 + j) - 1) = lnd1 (j + 1) s w := by
  funext k
  unfold up lnd1
  by_cases e : k = 10 + j
  · subst e
    rw [if_pos rfl, show (10 + (j : Int) - 10) = j by omega, if_pos ⟨by omega, by omega, h⟩]
  · rw [if_neg e]
    by_cases q : 10 ≤ k ∧ k < 10 + (j : Int) ∧ s (k - 10) = s w ∧ s (10 + w) < s k
    · rw [if_pos q, if_pos ⟨q.1, by omega, q.2.2⟩]
    · rw [if_neg q, if_neg fun q2 => q ⟨q2.1, by omega, q2.2.2⟩]
theorem lnd1_f {s : Int → Int} {w : Int} {j : Nat} (h : ¬ (s j = s w ∧ s (10 + w) < s (10 + j))) : lnd1 j s w = lnd1 (j + 1) s w := by
  funext k
  unfold lnd1
  by_cases e : k = 10 + j
  · subst e
    rw [show (10 + (j : Int) - 10) = j by omega, if_neg (by omega), if_neg fun q => h q.2.2]
  · by_cases q : 10 ≤ k ∧ k < 10 + (j : Int) ∧ s (k - 10) = s w ∧ s (10 + w) < s k
    · rw [if_pos q, if_pos ⟨q.1, by omega, q.2.2⟩]
    · rw [if_neg q, if_neg fun q2 => q ⟨q2.1, by omega, q2.2.2⟩]
theorem lnd1_n {s : Int → Int} {w : Int} {j : Nat} {k : Int} (h : k < 10 ∨ 10 + (j : Int) ≤ k ∨ k = 10 + w) : lnd1 j s w k = s k := by
  unfold lnd1
  by_cases e : k = 10 + w
  · subst e; rw [if_neg (by omega)]
  · rw [if_neg (by omega)]
theorem lnd1_0 {s : Int → Int} {w : Int} : lnd1 0 s w = s := by
  funext k; exact if_neg (by omega)
theorem bR.go {R : zR} {s cl un sh co he cl' un' he' : Int → Int} {dy dm w x : Int} (hB : bR R s cl un sh co he dy dm) (hR : wR R) (h0 : 0 ≤ w) (h1 : w < rW R) (hx : x = -2 ∨ (0 ≤ x ∧ x ≠ s w)) (c1 : cl' w = enc (if lndC R x ≠ -1 then -3 else x) (if lndC R x = -1 then 0 else lndC R x)) (c2 : ∀ v : Int, 0 ≤ v → v < rW R → v ≠ w → cl' v = cl v) (u1 : un' w = if x = -2 ∨ lndC R x ≠ -1 then 0 else many R s x) (u2 : ∀ v : Int, 0 ≤ v → v < rW R → v ≠ w → un' v = if s v = s w ∧ s (10 + w) < s (10 + v) then s (10 + v) - 1 else s (10 + v)) (hh : ∀ y : Int, 0 ≤ y → y < 30 → he' y + (if s w = y then 1 else 0) = he y + (if (if lndC R x ≠ -1 then -3 else x) = y then 1 else 0)) : bR R (lnd R s w x) cl' un' sh co he' dy dm := by
  have h10 := hR.2.1
  have h5 := hR.1
  obtain ⟨b1, b2, b3, b4, b5, b6, b7⟩ := hB
  refine ⟨fun v v0 v1 => ?_, fun v v0 v1 => ?_, fun v v0 v1 => ?_, fun k k0 k1 => ?_, fun y y0 y1 => ?_, ?_, ?_⟩
  · by_cases e : v = w
    · subst e; rw [lnd_w h10 h0 h1, lnd_c h10 h0 h1]; exact c1
    · rw [lnd_p h10 h0 h1 v0 v1 e, lnd_o h10 h0 h1 (by omega) (by omega), c2 v v0 v1 e]; exact b1 v v0 v1
  · by_cases e : v = w
    · subst e; rw [lnd_uw h10 h0 h1, u1]
      split
      · rfl
      · rw [if_neg (by omega)]; omega
    · rw [lnd_u h10 h0 h1 v0 v1 e]; exact u2 v v0 v1 e
  · rw [lnd_o h10 h0 h1 (by omega) (by omega)]; exact b3 v v0 v1
  · rw [lnd_o h10 h0 h1 (by omega) (by omega)]; exact b4 k k0 k1
  · have m := lnd_m (R := R) (s := s) (x := x) h10 h0 h1 y
    have q := hh y y0 y1
    rw [b5 y y0 y1] at q
    omega
  · rw [lnd_o h10 h0 h1 (by omega) (by omega)]; exact b6
  · rw [lnd_o h10 h0 h1 (by omega) (by omega)]; exact b7
section CM
variable {d : Nat} {I : Nat → Nat → Int} {A : Nat → Int → Int} {W : qWt} {R : zR} {F : zF} {s : Int → Int}
theorem c24_lift {w : Int} (hd : 1 ≤ d) (hR : cR R I A) (hB : bR R s (A 25) (A 26) (A 27) (A 28) (A 29) (I 24 7) (I 24 8)) (hs : sP R s) (h0 : 0 ≤ w) (h1 : w < rW R) (hp : 0 ≤ s w) : ∃ A', fr [26, 29] A A' ∧ (∀ v : Int, 0 ≤ v → v < rW R → v ≠ w → A' 26 v = if s v = s w ∧ s (10 + w) < s (10 + v) then s (10 + v) - 1 else s (10 + v)) ∧ A' 26 w = 0 ∧ A' 29 = up (A 29) (s w) (A 29 (s w) - 1) ∧ q_call q_MT d 37 [.ref 24, .int (zI w)] (zM I A W) = some (.inl none, zM I A' W) := by
  obtain ⟨d, rfl⟩ : ∃ e, d = e + 1 := ⟨d - 1, by omega⟩
  have hw := hR.1.2.1
  have hf := hR.1.2.2.2.2.1
  have hc4 := hR.1.2.2.1
  have hn := hR.2.2.1
  have bw := hB.1 w h0 h1
  rw [(enc_f hs h0 h1).1 hp] at bw
  have pw := hs w h0 h1
  rw [cl_X1_lift]
  simp (implicitDefEqProofs := false) (disch := omega) only [↓rI_s, ↓rV_s, ↓rI_e, ↓rV_e, zc_eq, zc_ne, zc_lt, zc_ge, zc_gt, zc_le, zlt_t, zlt_f, zle_t, zle_f, zeq_t, zeq_f, lz, zadd, zsub, zmul, zneg, zb_e0, zb_e1, boo0, boo1, ua_s, ua_n, ua_ua, up_s, u2_s, u2_f, u2_c, u2_u2, Int.natCast_add, Int.zero_add, Int.add_zero, ↓reduceIte, ne_eq, not_true_eq_false, not_false_eq_true, Int.natCast_one, ↓k_X1_lift_0, ↓k_X1_lift_55, ↓zg_24_2, zl_25, zs_25, ↓zn_25, ↓zg_24_0, ↓zg_5_1, ↓zg_24_3, zl_26, zs_26, ↓zn_26, ↓zg_24_6, zl_29, zs_29, ↓zn_29, bw]
  have hid : ua A 26 (A 26) = A := ua_id
  conv => enter [1, A', 2, 2, 2, 2, 1]; rw [← hid]
  refine lp_x (fun j (g : Int → Int) => q_run qm_X1_lift (q_call q_MT d) 9 [.ref 24, .int (zI w), .int (zI (s w)), .int (zI j)] [] (zM I (ua A 26 g) W)) (fun j g => ∀ v : Int, 0 ≤ v → v < rW R → g v = lnd1 j s w (10 + v)) (fun r => ∃ A', fr [26, 29] A A' ∧ (∀ v : Int, 0 ≤ v → v < rW R → v ≠ w → A' 26 v = if s v = s w ∧ s (10 + w) < s (10 + v) then s (10 + v) - 1 else s (10 + v)) ∧ A' 26 w = 0 ∧ A' 29 = up (A 29) (s w) (A 29 (s w) - 1) ∧ r = some (.inl none, zM I A' W)) (rW R) ?_ ?_ 0 (A 26) (by omega) (fun v v0 v1 => by rw [lnd1_n (by omega)]; exact hB.2.1 v v0 v1)
  · intro g hg
    refine ⟨ua (ua A 26 (up g w 0)) 29 (up (A 29) (s w) (A 29 (s w) - 1)), (fr.refl.a rfl).a rfl, fun v v0 v1 hn => ?_, ?_, ?_, ?_⟩
    · rw [ua_n (by decide), ua_s, up_n hn, hg v v0 v1]
      unfold lnd1
      rw [show 10 + v - 10 = v by omega]
      by_cases q : s v = s w ∧ s (10 + w) < s (10 + v)
      · rw [if_pos q, if_pos ⟨by omega, by omega, q⟩]
      · rw [if_neg q, if_neg fun q2 => q q2.2.2]
    · rw [ua_n (by decide), ua_s, up_s]
    · rw [ua_s]
    · rw [k_X1_lift_9]
      simp (implicitDefEqProofs := false) (disch := omega) only [↓rI_s, ↓rV_s, ↓rI_e, ↓rV_e, zc_eq, zc_ne, zc_lt, zc_ge, zc_gt, zc_le, zlt_t, zlt_f, zle_t, zle_f, zeq_t, zeq_f, lz, zadd, zsub, zmul, zneg, zb_e0, zb_e1, boo0, boo1, ua_s, ua_n, ua_ua, up_s, u2_s, u2_f, u2_c, u2_u2, Int.natCast_add, Int.zero_add, Int.add_zero, ↓reduceIte, ne_eq, not_true_eq_false, not_false_eq_true, Int.natCast_one, ↓k_X1_lift_0, ↓k_X1_lift_55, ↓zg_24_2, zl_25, zs_25, ↓zn_25, ↓zg_24_0, ↓zg_5_1, ↓zg_24_3, zl_26, zs_26, ↓zn_26, ↓zg_24_6, zl_29, zs_29, ↓zn_29, hn, Int.le_refl, ua_cm (c := 26) (d := 29)]
  · intro j g hj hg
    refine .inr ?_
    have gj := hg j (by omega) (by omega)
    have gw := hg w h0 h1
    rw [lnd1_n (by omega)] at gj gw
    have bj := hB.1 j (by omega) (by omega)
    have ej := enc_f hs (w := j) (by omega) (by omega)
    have pj := hs j (by omega) (by omega)
    rw [k_X1_lift_9]
    by_cases q1 : s j = s w
    · have bj2 : A 25 j = s w := by rw [bj, ej.1 (by omega)]; exact q1
      clear ej
      by_cases q2 : s (10 + w) < s (10 + j)
      · refine ⟨up g j (s (10 + j) - 1), fun v v0 v1 => ?_, ?_⟩
        · rw [← lnd1_t ⟨q1, q2⟩]
          unfold up
          by_cases e : v = j
          · rw [if_pos e, if_pos (by omega)]
          · rw [if_neg e, if_neg (by omega)]; exact hg v v0 v1
        · simp (implicitDefEqProofs := false) (disch := omega) only [↓rI_s, ↓rV_s, ↓rI_e, ↓rV_e, zc_eq, zc_ne, zc_lt, zc_ge, zc_gt, zc_le, zlt_t, zlt_f, zle_t, zle_f, zeq_t, zeq_f, lz, zadd, zsub, zmul, zneg, zb_e0, zb_e1, boo0, boo1, ua_s, ua_n, ua_ua, up_s, u2_s, u2_f, u2_c, u2_u2, Int.natCast_add, Int.zero_add, Int.add_zero, ↓reduceIte, ne_eq, not_true_eq_false, not_false_eq_true, Int.natCast_one, ↓k_X1_lift_0, ↓k_X1_lift_55, ↓zg_24_2, zl_25, zs_25, ↓zn_25, ↓zg_24_0, ↓zg_5_1, ↓zg_24_3, zl_26, zs_26, ↓zn_26, ↓zg_24_6, zl_29, zs_29, ↓zn_29, hn, bj2, gj, gw]
      · refine ⟨g, fun v v0 v1 => by rw [← lnd1_f fun q => q2 q.2]; exact hg v v0 v1, ?_⟩
        simp (implicitDefEqProofs := false) (disch := omega) only [↓rI_s, ↓rV_s, ↓rI_e, ↓rV_e, zc_eq, zc_ne, zc_lt, zc_ge, zc_gt, zc_le, zlt_t, zlt_f, zle_t, zle_f, zeq_t, zeq_f, lz, zadd, zsub, zmul, zneg, zb_e0, zb_e1, boo0, boo1, ua_s, ua_n, ua_ua, up_s, u2_s, u2_f, u2_c, u2_u2, Int.natCast_add, Int.zero_add, Int.add_zero, ↓reduceIte, ne_eq, not_true_eq_false, not_false_eq_true, Int.natCast_one, ↓k_X1_lift_0, ↓k_X1_lift_55, ↓zg_24_2, zl_25, zs_25, ↓zn_25, ↓zg_24_0, ↓zg_5_1, ↓zg_24_3, zl_26, zs_26, ↓zn_26, ↓zg_24_6, zl_29, zs_29, ↓zn_29, hn, bj2, gj, gw]
    · refine ⟨g, fun v v0 v1 => by rw [← lnd1_f fun q => q1 q.1]; exact hg v v0 v1, ?_⟩
      simp (implicitDefEqProofs := false) (disch := omega) only [↓rI_s, ↓rV_s, ↓rI_e, ↓rV_e, zc_eq, zc_ne, zc_lt, zc_ge, zc_gt, zc_le, zlt_t, zlt_f, zle_t, zle_f, zeq_t, zeq_f, lz, zadd, zsub, zmul, zneg, zb_e0, zb_e1, boo0, boo1, ua_s, ua_n, ua_ua, up_s, u2_s, u2_f, u2_c, u2_u2, Int.natCast_add, Int.zero_add, Int.add_zero, ↓reduceIte, ne_eq, not_true_eq_false, not_false_eq_true, Int.natCast_one, ↓k_X1_lift_0, ↓k_X1_lift_55, ↓zg_24_2, zl_25, zs_25, ↓zn_25, ↓zg_24_0, ↓zg_5_1, ↓zg_24_3, zl_26, zs_26, ↓zn_26, ↓zg_24_6, zl_29, zs_29, ↓zn_29, hn]
theorem c24_layOnTop {w x : Int} (hd : 1 ≤ d) (h0 : 0 ≤ w) (h1 : w < 10) (x0 : 0 ≤ x) (x1 : x < 30) : q_call q_MT d 38 [.ref 24, .int (zI w), .int (zI x)] (zM I A W) = some (.inl none, zM I (ua (ua (ua A 25 (up (A 25) w x)) 26 (up (A 26) w (A 29 x))) 29 (up (A 29) x (A 29 x + 1))) W) := by
  obtain ⟨d, rfl⟩ : ∃ e, d = e + 1 := ⟨d - 1, by omega⟩
  rw [cl_X1_layOnTop]
  simp (implicitDefEqProofs := false) (disch := omega) only [↓rI_s, ↓rV_s, ↓rI_e, ↓rV_e, zc_eq, zc_ne, zc_lt, zc_ge, zc_gt, zc_le, zlt_t, zlt_f, zle_t, zle_f, zeq_t, zeq_f, lz, zadd, zsub, zmul, zneg, zb_e0, zb_e1, boo0, boo1, ua_s, ua_n, ua_ua, up_s, u2_s, u2_f, u2_c, u2_u2, Int.natCast_add, Int.zero_add, Int.add_zero, ↓reduceIte, ne_eq, not_true_eq_false, not_false_eq_true, Int.natCast_one, ↓k_X1_layOnTop_0, ↓zg_24_2, zl_25, zs_25, ↓zn_25, ↓zg_24_3, zl_26, zs_26, ↓zn_26, ↓zg_24_6, zl_29, zs_29, ↓zn_29]
theorem c24_fly0 {w : Int} (hd : 2 ≤ d) : q_call q_MT d 36 [.ref 24, .int (zI w), .int (zI 0)] (zM I A W) = some (.inl (some (.int (zI (-1)))), zM I A W) := by
  obtain ⟨d, rfl⟩ : ∃ e, d = e + 1 := ⟨d - 1, by omega⟩
  rw [cl_X1_fly]
  simp (implicitDefEqProofs := false) (disch := omega) only [↓rI_s, ↓rV_s, ↓rI_e, ↓rV_e, zc_eq, zc_ne, zc_lt, zc_ge, zc_gt, zc_le, zlt_t, zlt_f, zle_t, zle_f, zeq_t, zeq_f, lz, zadd, zsub, zmul, zneg, zb_e0, zb_e1, boo0, boo1, ua_s, ua_n, ua_ua, up_s, u2_s, u2_f, u2_c, u2_u2, Int.natCast_add, Int.zero_add, Int.add_zero, ↓reduceIte, ne_eq, not_true_eq_false, not_false_eq_true, Int.natCast_one, ↓k_X1_fly_0, ↓k_X1_fly_12, ↓k_X1_fly_43, ↓k_X1_fly_89, ↓mc_24, ↓mc_30, ↓zg_24_2, zl_25, zs_25, ↓zn_25, ↓zg_24_0, ↓zg_5_3, ↓mc_5, ↓mc_12]
theorem c24_fly {w f : Int} (hd : 2 ≤ d) (hR : cR R I A) (hB : bR R s (A 25) (A 26) (A 27) (A 28) (A 29) (I 24 7) (I 24 8)) (hs : sP R s) (h0 : 0 ≤ w) (h1 : w < rW R) (hp : 0 ≤ s w) (hf : f ≠ 0) (hf1 : -100 ≤ f ∧ f ≤ 100) : ∃ A', fr [25, 26, 29] A A' ∧ bR R (lnd R s w (if s w + f < 0 ∨ rF R ≤ s w + f then -2 else s w + f)) (A' 25) (A' 26) (A' 27) (A' 28) (A' 29) (I 24 7) (I 24 8) ∧ q_call q_MT d 36 [.ref 24, .int (zI w), .int (zI f)] (zM I A W) = some (.inl (some (.int (zI (lndC R (if s w + f < 0 ∨ rF R ≤ s w + f then -2 else s w + f))))), zM I A' W) := by
  obtain ⟨d, rfl⟩ : ∃ e, d = e + 1 := ⟨d - 1, by omega⟩
  have hw := hR.1.2.1
  have hfe := hR.1.2.2.2.2.1
  have hc4 := hR.1.2.2.1
  have hn := hR.2.2.2.2.1
  have bw := hB.1 w h0 h1
  rw [(enc_f hs h0 h1).1 hp] at bw
  have pw := hs w h0 h1
  obtain ⟨A', fr', u1, u2, u3, e⟩ := c24_lift (W := W) (show 1 ≤ d by omega) hR hB hs h0 h1 hp
  have hR' := hR.fr fr' rfl
  rw [cl_X1_fly]
  simp (implicitDefEqProofs := false) (disch := omega) only [↓rI_s, ↓rV_s, ↓rI_e, ↓rV_e, zc_eq, zc_ne, zc_lt, zc_ge, zc_gt, zc_le, zlt_t, zlt_f, zle_t, zle_f, zeq_t, zeq_f, lz, zadd, zsub, zmul, zneg, zb_e0, zb_e1, boo0, boo1, ua_s, ua_n, ua_ua, up_s, u2_s, u2_f, u2_c, u2_u2, Int.natCast_add, Int.zero_add, Int.add_zero, ↓reduceIte, ne_eq, not_true_eq_false, not_false_eq_true, Int.natCast_one, ↓k_X1_fly_0, ↓k_X1_fly_12, ↓k_X1_fly_43, ↓k_X1_fly_89, ↓mc_24, ↓mc_30, ↓zg_24_2, zl_25, zs_25, ↓zn_25, ↓zg_24_0, ↓zg_5_3, ↓mc_5, ↓mc_12]
  rw [c24_isOnFelt (by omega) hR hB hs h0 h1, zb_t hp]
  simp (implicitDefEqProofs := false) (disch := omega) only [↓rI_s, ↓rV_s, ↓rI_e, ↓rV_e, zc_eq, zc_ne, zc_lt, zc_ge, zc_gt, zc_le, zlt_t, zlt_f, zle_t, zle_f, zeq_t, zeq_f, lz, zadd, zsub, zmul, zneg, zb_e0, zb_e1, boo0, boo1, ua_s, ua_n, ua_ua, up_s, u2_s, u2_f, u2_c, u2_u2, Int.natCast_add, Int.zero_add, Int.add_zero, ↓reduceIte, ne_eq, not_true_eq_false, not_false_eq_true, Int.natCast_one, ↓k_X1_fly_0, ↓k_X1_fly_12, ↓k_X1_fly_43, ↓k_X1_fly_89, ↓mc_24, ↓mc_30, ↓zg_24_2, zl_25, zs_25, ↓zn_25, ↓zg_24_0, ↓zg_5_3, ↓mc_5, ↓mc_12, bw, e]
  by_cases q : s w + f < 0 ∨ rF R ≤ s w + f
  · have hl : lndC R (-2) = -1 := rfl
    rw [if_pos q]
    refine ⟨ua A' 25 (up (A' 25) w (-2)), (fr'.wd rfl).a rfl, ?_, ?_⟩
    · rw [ua_s, ua_n (by decide), ua_n (by decide), ua_n (by decide), ua_n (by decide), fr' 27 rfl, fr' 28 rfl, u3, fr' 25 rfl]
      refine hB.go hR.1 h0 h1 (.inl rfl) ?_ (fun v v0 v1 hn => up_n hn) ?_ u1 fun y y0 y1 => ?_
      · rw [up_s]; rfl
      · rw [u2, if_pos (.inl rfl)]
      · rw [if_neg (show ¬ (if lndC R (-2) ≠ -1 then (-3 : Int) else -2) = y by rw [hl]; simp only [ne_eq, not_true_eq_false, ↓reduceIte]; omega)]
        unfold up
        by_cases e : y = s w
        · rw [if_pos e, if_pos e.symm, e]; omega
        · rw [if_neg e, if_neg (fun q => e q.symm)]
    · rw [hl]
      by_cases q1 : s w + f < 0
      · simp (implicitDefEqProofs := false) (disch := omega) only [↓rI_s, ↓rV_s, ↓rI_e, ↓rV_e, zc_eq, zc_ne, zc_lt, zc_ge, zc_gt, zc_le, zlt_t, zlt_f, zle_t, zle_f, zeq_t, zeq_f, lz, zadd, zsub, zmul, zneg, zb_e0, zb_e1, boo0, boo1, ua_s, ua_n, ua_ua, up_s, u2_s, u2_f, u2_c, u2_u2, Int.natCast_add, Int.zero_add, Int.add_zero, ↓reduceIte, ne_eq, not_true_eq_false, not_false_eq_true, Int.natCast_one, ↓k_X1_fly_0, ↓k_X1_fly_12, ↓k_X1_fly_43, ↓k_X1_fly_89, ↓mc_24, ↓mc_30, ↓zg_24_2, zl_25, zs_25, ↓zn_25, ↓zg_24_0, ↓zg_5_3, ↓mc_5, ↓mc_12]
      · simp (implicitDefEqProofs := false) (disch := omega) only [↓rI_s, ↓rV_s, ↓rI_e, ↓rV_e, zc_eq, zc_ne, zc_lt, zc_ge, zc_gt, zc_le, zlt_t, zlt_f, zle_t, zle_f, zeq_t, zeq_f, lz, zadd, zsub, zmul, zneg, zb_e0, zb_e1, boo0, boo1, ua_s, ua_n, ua_ua, up_s, u2_s, u2_f, u2_c, u2_u2, Int.natCast_add, Int.zero_add, Int.add_zero, ↓reduceIte, ne_eq, not_true_eq_false, not_false_eq_true, Int.natCast_one, ↓k_X1_fly_0, ↓k_X1_fly_12, ↓k_X1_fly_43, ↓k_X1_fly_89, ↓mc_24, ↓mc_30, ↓zg_24_2, zl_25, zs_25, ↓zn_25, ↓zg_24_0, ↓zg_5_3, ↓mc_5, ↓mc_12, hn]
  · rw [if_neg q]
    have q1 : 0 ≤ s w + f ∧ s w + f < rF R := by omega
    have hl : lndC R (s w + f) = cupAt R (s w + f) := by unfold lndC; rw [if_neg (by omega)]
    have hc0 := cupAt_lo R (s w + f)
    have hc1 := cupAt_hi R (s w + f)
    simp (implicitDefEqProofs := false) (disch := omega) only [↓rI_s, ↓rV_s, ↓rI_e, ↓rV_e, zc_eq, zc_ne, zc_lt, zc_ge, zc_gt, zc_le, zlt_t, zlt_f, zle_t, zle_f, zeq_t, zeq_f, lz, zadd, zsub, zmul, zneg, zb_e0, zb_e1, boo0, boo1, ua_s, ua_n, ua_ua, up_s, u2_s, u2_f, u2_c, u2_u2, Int.natCast_add, Int.zero_add, Int.add_zero, ↓reduceIte, ne_eq, not_true_eq_false, not_false_eq_true, Int.natCast_one, ↓k_X1_fly_0, ↓k_X1_fly_12, ↓k_X1_fly_43, ↓k_X1_fly_89, ↓mc_24, ↓mc_30, ↓zg_24_2, zl_25, zs_25, ↓zn_25, ↓zg_24_0, ↓zg_5_3, ↓mc_5, ↓mc_12, hn]
    rw [c_cupAt (by omega) hR' (by omega)]
    by_cases q2 : cupAt R (s w + f) = -1
    · refine ⟨ua (ua (ua A' 25 (up (A' 25) w (s w + f))) 26 (up (A' 26) w (A' 29 (s w + f)))) 29 (up (A' 29) (s w + f) (A' 29 (s w + f) + 1)), (((fr'.wd rfl).a rfl).a rfl).a rfl, ?_, ?_⟩
      · rw [ua_n (by decide), ua_n (by decide), ua_s, ua_n (by decide), ua_s, ua_n (by decide), ua_n (by decide), ua_n (by decide), ua_n (by decide), ua_n (by decide), ua_n (by decide), ua_s, fr' 27 rfl, fr' 28 rfl, u3, fr' 25 rfl]
        refine hB.go hR.1 h0 h1 (.inr (by omega)) ?_ (fun v v0 v1 hn => up_n hn) ?_ (fun v v0 v1 hn => by rw [up_n hn]; exact u1 v v0 v1 hn) fun y y0 y1 => ?_
        · rw [up_s, hl, q2]; simp only [ne_eq, not_true_eq_false, ↓reduceIte]; unfold enc; rw [if_neg (by omega)]
        · rw [up_s, hl, q2, if_neg (by omega), up_n (by omega)]; exact hB.2.2.2.2.1 _ (by omega) (by omega)
        · rw [hl, q2]
          simp only [ne_eq, not_true_eq_false, ↓reduceIte]
          unfold up
          by_cases e : y = s w + f
          · subst e; rw [if_pos rfl, if_neg (by omega), if_neg (by omega), if_pos rfl]; omega
          · rw [if_neg e, if_neg (show ¬ s w + f = y from fun q => e q.symm)]
            by_cases e2 : y = s w
            · rw [if_pos e2, if_pos e2.symm, e2]; omega
            · rw [if_neg e2, if_neg (fun q => e2 q.symm)]
      · rw [hl]
        simp (implicitDefEqProofs := false) (disch := omega) only [↓rI_s, ↓rV_s, ↓rI_e, ↓rV_e, zc_eq, zc_ne, zc_lt, zc_ge, zc_gt, zc_le, zlt_t, zlt_f, zle_t, zle_f, zeq_t, zeq_f, lz, zadd, zsub, zmul, zneg, zb_e0, zb_e1, boo0, boo1, ua_s, ua_n, ua_ua, up_s, u2_s, u2_f, u2_c, u2_u2, Int.natCast_add, Int.zero_add, Int.add_zero, ↓reduceIte, ne_eq, not_true_eq_false, not_false_eq_true, Int.natCast_one, ↓k_X1_fly_0, ↓k_X1_fly_12, ↓k_X1_fly_43, ↓k_X1_fly_89, ↓mc_24, ↓mc_30, ↓zg_24_2, zl_25, zs_25, ↓zn_25, ↓zg_24_0, ↓zg_5_3, ↓mc_5, ↓mc_12, q2]
        rw [c24_layOnTop (by omega) h0 (by omega) (by omega) (by omega)]
        simp (implicitDefEqProofs := false) (disch := omega) only [↓rI_s, ↓rV_s, ↓rI_e, ↓rV_e, zc_eq, zc_ne, zc_lt, zc_ge, zc_gt, zc_le, zlt_t, zlt_f, zle_t, zle_f, zeq_t, zeq_f, lz, zadd, zsub, zmul, zneg, zb_e0, zb_e1, boo0, boo1, ua_s, ua_n, ua_ua, up_s, u2_s, u2_f, u2_c, u2_u2, Int.natCast_add, Int.zero_add, Int.add_zero, ↓reduceIte, ne_eq, not_true_eq_false, not_false_eq_true, Int.natCast_one, ↓k_X1_fly_0, ↓k_X1_fly_12, ↓k_X1_fly_43, ↓k_X1_fly_89, ↓mc_24, ↓mc_30, ↓zg_24_2, zl_25, zs_25, ↓zn_25, ↓zg_24_0, ↓zg_5_3, ↓mc_5, ↓mc_12]
    · refine ⟨ua A' 25 (up (A' 25) w (-3 - cupAt R (s w + f))), (fr'.wd rfl).a rfl, ?_, ?_⟩
      · rw [ua_s, ua_n (by decide), ua_n (by decide), ua_n (by decide), ua_n (by decide), fr' 27 rfl, fr' 28 rfl, u3, fr' 25 rfl]
        refine hB.go hR.1 h0 h1 (.inr (by omega)) ?_ (fun v v0 v1 hn => up_n hn) ?_ u1 fun y y0 y1 => ?_
        · rw [up_s, hl, if_pos q2, if_neg q2]; rfl
        · rw [u2, if_pos (.inr (by rw [hl]; exact q2))]
        · rw [hl, if_pos q2, if_neg (show ¬ (-3 : Int) = y by omega)]
          unfold up
          by_cases e2 : y = s w
          · rw [if_pos e2, if_pos e2.symm, e2]; omega
          · rw [if_neg e2, if_neg (fun q => e2 q.symm)]
      · rw [hl]
        simp (implicitDefEqProofs := false) (disch := omega) only [↓rI_s, ↓rV_s, ↓rI_e, ↓rV_e, zc_eq, zc_ne, zc_lt, zc_ge, zc_gt, zc_le, zlt_t, zlt_f, zle_t, zle_f, zeq_t, zeq_f, lz, zadd, zsub, zmul, zneg, zb_e0, zb_e1, boo0, boo1, ua_s, ua_n, ua_ua, up_s, u2_s, u2_f, u2_c, u2_u2, Int.natCast_add, Int.zero_add, Int.add_zero, ↓reduceIte, ne_eq, not_true_eq_false, not_false_eq_true, Int.natCast_one, ↓k_X1_fly_0, ↓k_X1_fly_12, ↓k_X1_fly_43, ↓k_X1_fly_89, ↓mc_24, ↓mc_30, ↓zg_24_2, zl_25, zs_25, ↓zn_25, ↓zg_24_0, ↓zg_5_3, ↓mc_5, ↓mc_12]
theorem c30_lift {w : Int} (hd : 1 ≤ d) (hR : cR R I A) (hB : bR R s (A 31) (A 32) (A 33) (A 34) (A 35) (I 30 7) (I 30 8)) (hs : sP R s) (h0 : 0 ≤ w) (h1 : w < rW R) (hp : 0 ≤ s w) : ∃ A', fr [32, 35] A A' ∧ (∀ v : Int, 0 ≤ v → v < rW R → v ≠ w → A' 32 v = if s v = s w ∧ s (10 + w) < s (10 + v) then s (10 + v) - 1 else s (10 + v)) ∧ A' 32 w = 0 ∧ A' 35 = up (A 35) (s w) (A 35 (s w) - 1) ∧ q_call q_MT d 37 [.ref 30, .int (zI w)] (zM I A W) = some (.inl none, zM I A' W) := by
  obtain ⟨d, rfl⟩ : ∃ e, d = e + 1 := ⟨d - 1, by omega⟩
  have hw := hR.1.2.1
  have hf := hR.1.2.2.2.2.1
  have hc4 := hR.1.2.2.1
  have hn := hR.2.2.1
  have bw := hB.1 w h0 h1
  rw [(enc_f hs h0 h1).1 hp] at bw
  have pw := hs w h0 h1
  rw [cl_X1_lift]
  simp (implicitDefEqProofs := false) (disch := omega) only [↓rI_s, ↓rV_s, ↓rI_e, ↓rV_e, zc_eq, zc_ne, zc_lt, zc_ge, zc_gt, zc_le, zlt_t, zlt_f, zle_t, zle_f, zeq_t, zeq_f, lz, zadd, zsub, zmul, zneg, zb_e0, zb_e1, boo0, boo1, ua_s, ua_n, ua_ua, up_s, u2_s, u2_f, u2_c, u2_u2, Int.natCast_add, Int.zero_add, Int.add_zero, ↓reduceIte, ne_eq, not_true_eq_false, not_false_eq_true, Int.natCast_one, ↓k_X1_lift_0, ↓k_X1_lift_55, ↓zg_30_2, zl_31, zs_31, ↓zn_31, ↓zg_30_0, ↓zg_5_1, ↓zg_30_3, zl_32, zs_32, ↓zn_32, ↓zg_30_6, zl_35, zs_35, ↓zn_35, bw]
  have hid : ua A 32 (A 32) = A := ua_id
  conv => enter [1, A', 2, 2, 2, 2, 1]; rw [← hid]
  refine lp_x (fun j (g : Int → Int) => q_run qm_X1_lift (q_call q_MT d) 9 [.ref 30, .int (zI w), .int (zI (s w)), .int (zI j)] [] (zM I (ua A 32 g) W)) (fun j g => ∀ v : Int, 0 ≤ v → v < rW R → g v = lnd1 j s w (10 + v)) (fun r => ∃ A', fr [32, 35] A A' ∧ (∀ v : Int, 0 ≤ v → v < rW R → v ≠ w → A' 32 v = if s v = s w ∧ s (10 + w) < s (10 + v) then s (10 + v) - 1 else s (10 + v)) ∧ A' 32 w = 0 ∧ A' 35 = up (A 35) (s w) (A 35 (s w) - 1) ∧ r = some (.inl none, zM I A' W)) (rW R) ?_ ?_ 0 (A 32) (by omega) (fun v v0 v1 => by rw [lnd1_n (by omega)]; exact hB.2.1 v v0 v1)
  · intro g hg
    refine ⟨ua (ua A 32 (up g w 0)) 35 (up (A 35) (s w) (A 35 (s w) - 1)), (fr.refl.a rfl).a rfl, fun v v0 v1 hn => ?_, ?_, ?_, ?_⟩
    · rw [ua_n (by decide), ua_s, up_n hn, hg v v0 v1]
      unfold lnd1
      rw [show 10 + v - 10 = v by omega]
      by_cases q : s v = s w ∧ s (10 + w) < s (10 + v)
      · rw [if_pos q, if_pos ⟨by omega, by omega, q⟩]
      · rw [if_neg q, if_neg fun q2 => q q2.2.2]
    · rw [ua_n (by decide), ua_s, up_s]
    · rw [ua_s]
    · rw [k_X1_lift_9]
      simp (implicitDefEqProofs := false) (disch := omega) only [↓rI_s, ↓rV_s, ↓rI_e, ↓rV_e, zc_eq, zc_ne, zc_lt, zc_ge, zc_gt, zc_le, zlt_t, zlt_f, zle_t, zle_f, zeq_t, zeq_f, lz, zadd, zsub, zmul, zneg, zb_e0, zb_e1, boo0, boo1, ua_s, ua_n, ua_ua, up_s, u2_s, u2_f, u2_c, u2_u2, Int.natCast_add, Int.zero_add, Int.add_zero, ↓reduceIte, ne_eq, not_true_eq_false, not_false_eq_true, Int.natCast_one, ↓k_X1_lift_0, ↓k_X1_lift_55, ↓zg_30_2, zl_31, zs_31, ↓zn_31, ↓zg_30_0, ↓zg_5_1, ↓zg_30_3, zl_32, zs_32, ↓zn_32, ↓zg_30_6, zl_35, zs_35, ↓zn_35, hn, Int.le_refl, ua_cm (c := 32) (d := 35)]
  · intro j g hj hg
    refine .inr ?_
    have gj := hg j (by omega) (by omega)
    have gw := hg w h0 h1
    rw [lnd1_n (by omega)] at gj gw
    have bj := hB.1 j (by omega) (by omega)
    have ej := enc_f hs (w := j) (by omega) (by omega)
    have pj := hs j (by omega) (by omega)
    rw [k_X1_lift_9]
    by_cases q1 : s j = s w
    · have bj2 : A 31 j = s w := by rw [bj, ej.1 (by omega)]; exact q1
      clear ej
      by_cases q2 : s (10 + w) < s (10 + j)
      · refine ⟨up g j (s (10 + j) - 1), fun v v0 v1 => ?_, ?_⟩
        · rw [← lnd1_t ⟨q1, q2⟩]
          unfold up
          by_cases e : v = j
          · rw [if_pos e, if_pos (by omega)]
          · rw [if_neg e, if_neg (by omega)]; exact hg v v0 v1
        · simp (implicitDefEqProofs := false) (disch := omega) only [↓rI_s, ↓rV_s, ↓rI_e, ↓rV_e, zc_eq, zc_ne, zc_lt, zc_ge, zc_gt, zc_le, zlt_t, zlt_f, zle_t, zle_f, zeq_t, zeq_f, lz, zadd, zsub, zmul, zneg, zb_e0, zb_e1, boo0, boo1, ua_s, ua_n, ua_ua, up_s, u2_s, u2_f, u2_c, u2_u2, Int.natCast_add, Int.zero_add, Int.add_zero, ↓reduceIte, ne_eq, not_true_eq_false, not_false_eq_true, Int.natCast_one, ↓k_X1_lift_0, ↓k_X1_lift_55, ↓zg_30_2, zl_31, zs_31, ↓zn_31, ↓zg_30_0, ↓zg_5_1, ↓zg_30_3, zl_32, zs_32, ↓zn_32, ↓zg_30_6, zl_35, zs_35, ↓zn_35, hn, bj2, gj, gw]
      · refine ⟨g, fun v v0 v1 => by rw [← lnd1_f fun q => q2 q.2]; exact hg v v0 v1, ?_⟩
        simp (implicitDefEqProofs := false) (disch := omega) only [↓rI_s, ↓rV_s, ↓rI_e, ↓rV_e, zc_eq, zc_ne, zc_lt, zc_ge, zc_gt, zc_le, zlt_t, zlt_f, zle_t, zle_f, zeq_t, zeq_f, lz, zadd, zsub, zmul, zneg, zb_e0, zb_e1, boo0, boo1, ua_s, ua_n, ua_ua, up_s, u2_s, u2_f, u2_c, u2_u2, Int.natCast_add, Int.zero_add, Int.add_zero, ↓reduceIte, ne_eq, not_true_eq_false, not_false_eq_true, Int.natCast_one, ↓k_X1_lift_0, ↓k_X1_lift_55, ↓zg_30_2, zl_31, zs_31, ↓zn_31, ↓zg_30_0, ↓zg_5_1, ↓zg_30_3, zl_32, zs_32, ↓zn_32, ↓zg_30_6, zl_35, zs_35, ↓zn_35, hn, bj2, gj, gw]
    · refine ⟨g, fun v v0 v1 => by rw [← lnd1_f fun q => q1 q.1]; exact hg v v0 v1, ?_⟩
      simp (implicitDefEqProofs := false) (disch := omega) only [↓rI_s, ↓rV_s, ↓rI_e, ↓rV_e, zc_eq, zc_ne, zc_lt, zc_ge, zc_gt, zc_le, zlt_t, zlt_f, zle_t, zle_f, zeq_t, zeq_f, lz, zadd, zsub, zmul, zneg, zb_e0, zb_e1, boo0, boo1, ua_s, ua_n, ua_ua, up_s, u2_s, u2_f, u2_c, u2_u2, Int.natCast_add, Int.zero_add, Int.add_zero, ↓reduceIte, ne_eq, not_true_eq_false, not_false_eq_true, Int.natCast_one, ↓k_X1_lift_0, ↓k_X1_lift_55, ↓zg_30_2, zl_31, zs_31, ↓zn_31, ↓zg_30_0, ↓zg_5_1, ↓zg_30_3, zl_32, zs_32, ↓zn_32, ↓zg_30_6, zl_35, zs_35, ↓zn_35, hn]
theorem c30_layOnTop {w x : Int} (hd : 1 ≤ d) (h0 : 0 ≤ w) (h1 : w < 10) (x0 : 0 ≤ x) (x1 : x < 30) : q_call q_MT d 38 [.ref 30, .int (zI w), .int (zI x)] (zM I A W) = some (.inl none, zM I (ua (ua (ua A 31 (up (A 31) w x)) 32 (up (A 32) w (A 35 x))) 35 (up (A 35) x (A 35 x + 1))) W) := by
  obtain ⟨d, rfl⟩ : ∃ e, d = e + 1 := ⟨d - 1, by omega⟩
  rw [cl_X1_layOnTop]
  simp (implicitDefEqProofs := false) (disch := omega) only [↓rI_s, ↓rV_s, ↓rI_e, ↓rV_e, zc_eq, zc_ne, zc_lt, zc_ge, zc_gt, zc_le, zlt_t, zlt_f, zle_t, zle_f, zeq_t, zeq_f, lz, zadd, zsub, zmul, zneg, zb_e0, zb_e1, boo0, boo1, ua_s, ua_n, ua_ua, up_s, u2_s, u2_f, u2_c, u2_u2, Int.natCast_add, Int.zero_add, Int.add_zero, ↓reduceIte, ne_eq, not_true_eq_false, not_false_eq_true, Int.natCast_one, ↓k_X1_layOnTop_0, ↓zg_30_2, zl_31, zs_31, ↓zn_31, ↓zg_30_3, zl_32, zs_32, ↓zn_32, ↓zg_30_6, zl_35, zs_35, ↓zn_35]
theorem c30_fly0 {w : Int} (hd : 2 ≤ d) : q_call q_MT d 36 [.ref 30, .int (zI w), .int (zI 0)] (zM I A W) = some (.inl (some (.int (zI (-1)))), zM I A W) := by
  obtain ⟨d, rfl⟩ : ∃ e, d = e + 1 := ⟨d - 1, by omega⟩
  rw [cl_X1_fly]
  simp (implicitDefEqProofs := false) (disch := omega) only [↓rI_s, ↓rV_s, ↓rI_e, ↓rV_e, zc_eq, zc_ne, zc_lt, zc_ge, zc_gt, zc_le, zlt_t, zlt_f, zle_t, zle_f, zeq_t, zeq_f, lz, zadd, zsub, zmul, zneg, zb_e0, zb_e1, boo0, boo1, ua_s, ua_n, ua_ua, up_s, u2_s, u2_f, u2_c, u2_u2, Int.natCast_add, Int.zero_add, Int.add_zero, ↓reduceIte, ne_eq, not_true_eq_false, not_false_eq_true, Int.natCast_one, ↓k_X1_fly_0, ↓k_X1_fly_12, ↓k_X1_fly_43, ↓k_X1_fly_89, ↓mc_24, ↓mc_30, ↓zg_30_2, zl_31, zs_31, ↓zn_31, ↓zg_30_0, ↓zg_5_3, ↓mc_5, ↓mc_12]
theorem c30_fly {w f : Int} (hd : 2 ≤ d) (hR : cR R I A) (hB : bR R s (A 31) (A 32) (A 33) (A 34) (A 35) (I 30 7) (I 30 8)) (hs : sP R s) (h0 : 0 ≤ w) (h1 : w < rW R) (hp : 0 ≤ s w) (hf : f ≠ 0) (hf1 : -100 ≤ f ∧ f ≤ 100) : ∃ A', fr [31, 32, 35] A A' ∧ bR R (lnd R s w (if s w + f < 0 ∨ rF R ≤ s w + f then -2 else s w + f)) (A' 31) (A' 32) (A' 33) (A' 34) (A' 35) (I 30 7) (I 30 8) ∧ q_call q_MT d 36 [.ref 30, .int (zI w), .int (zI f)] (zM I A W) = some (.inl (some (.int (zI (lndC R (if s w + f < 0 ∨ rF R ≤ s w + f then -2 else s w + f))))), zM I A' W) := by
  obtain ⟨d, rfl⟩ : ∃ e, d = e + 1 := ⟨d - 1, by omega⟩
  have hw := hR.1.2.1
  have hfe := hR.1.2.2.2.2.1
  have hc4 := hR.1.2.2.1
  have hn := hR.2.2.2.2.1
  have bw := hB.1 w h0 h1
  rw [(enc_f hs h0 h1).1 hp] at bw
  have pw := hs w h0 h1
  obtain ⟨A', fr', u1, u2, u3, e⟩ := c30_lift (W := W) (show 1 ≤ d by omega) hR hB hs h0 h1 hp
  have hR' := hR.fr fr' rfl
  rw [cl_X1_fly]
  simp (implicitDefEqProofs := false) (disch := omega) only [↓rI_s, ↓rV_s, ↓rI_e, ↓rV_e, zc_eq, zc_ne, zc_lt, zc_ge, zc_gt, zc_le, zlt_t, zlt_f, zle_t, zle_f, zeq_t, zeq_f, lz, zadd, zsub, zmul, zneg, zb_e0, zb_e1, boo0, boo1, ua_s, ua_n, ua_ua, up_s, u2_s, u2_f, u2_c, u2_u2, Int.natCast_add, Int.zero_add, Int.add_zero, ↓reduceIte, ne_eq, not_true_eq_false, not_false_eq_true, Int.natCast_one, ↓k_X1_fly_0, ↓k_X1_fly_12, ↓k_X1_fly_43, ↓k_X1_fly_89, ↓mc_24, ↓mc_30, ↓zg_30_2, zl_31, zs_31, ↓zn_31, ↓zg_30_0, ↓zg_5_3, ↓mc_5, ↓mc_12]
  rw [c30_isOnFelt (by omega) hR hB hs h0 h1, zb_t hp]
  simp (implicitDefEqProofs := false) (disch := omega) only [↓rI_s, ↓rV_s, ↓rI_e, ↓rV_e, zc_eq, zc_ne, zc_lt, zc_ge, zc_gt, zc_le, zlt_t, zlt_f, zle_t, zle_f, zeq_t, zeq_f, lz, zadd, zsub, zmul, zneg, zb_e0, zb_e1, boo0, boo1, ua_s, ua_n, ua_ua, up_s, u2_s, u2_f, u2_c, u2_u2, Int.natCast_add, Int.zero_add, Int.add_zero, ↓reduceIte, ne_eq, not_true_eq_false, not_false_eq_true, Int.natCast_one, ↓k_X1_fly_0, ↓k_X1_fly_12, ↓k_X1_fly_43, ↓k_X1_fly_89, ↓mc_24, ↓mc_30, ↓zg_30_2, zl_31, zs_31, ↓zn_31, ↓zg_30_0, ↓zg_5_3, ↓mc_5, ↓mc_12, bw, e]
  by_cases q : s w + f < 0 ∨ rF R ≤ s w + f
  · have hl : lndC R (-2) = -1 := rfl
    rw [if_pos q]
    refine ⟨ua A' 31 (up (A' 31) w (-2)), (fr'.wd rfl).a rfl, ?_, ?_⟩
    · rw [ua_s, ua_n (by decide), ua_n (by decide), ua_n (by decide), ua_n (by decide), fr' 33 rfl, fr' 34 rfl, u3, fr' 31 rfl]
      refine hB.go hR.1 h0 h1 (.inl rfl) ?_ (fun v v0 v1 hn => up_n hn) ?_ u1 fun y y0 y1 => ?_
      · rw [up_s]; rfl
      · rw [u2, if_pos (.inl rfl)]
      · rw [if_neg (show ¬ (if lndC R (-2) ≠ -1 then (-3 : Int) else -2) = y by rw [hl]; simp only [ne_eq, not_true_eq_false, ↓reduceIte]; omega)]
        unfold up
        by_cases e : y = s w
        · rw [if_pos e, if_pos e.symm, e]; omega
        · rw [if_neg e, if_neg (fun q => e q.symm)]
    · rw [hl]
      by_cases q1 : s w + f < 0
      · simp (implicitDefEqProofs := false) (disch := omega) only [↓rI_s, ↓rV_s, ↓rI_e, ↓rV_e, zc_eq, zc_ne, zc_lt, zc_ge, zc_gt, zc_le, zlt_t, zlt_f, zle_t, zle_f, zeq_t, zeq_f, lz, zadd, zsub, zmul, zneg, zb_e0, zb_e1, boo0, boo1, ua_s, ua_n, ua_ua, up_s, u2_s, u2_f, u2_c, u2_u2, Int.natCast_add, Int.zero_add, Int.add_zero, ↓reduceIte, ne_eq, not_true_eq_false, not_false_eq_true, Int.natCast_one, ↓k_X1_fly_0, ↓k_X1_fly_12, ↓k_X1_fly_43, ↓k_X1_fly_89, ↓mc_24, ↓mc_30, ↓zg_30_2, zl_31, zs_31, ↓zn_31, ↓zg_30_0, ↓zg_5_3, ↓mc_5, ↓mc_12]
      · simp (implicitDefEqProofs := false) (disch := omega) only [↓rI_s, ↓rV_s, ↓rI_e, ↓rV_e, zc_eq, zc_ne, zc_lt, zc_ge, zc_gt, zc_le, zlt_t, zlt_f, zle_t, zle_f, zeq_t, zeq_f, lz, zadd, zsub, zmul, zneg, zb_e0, zb_e1, boo0, boo1, ua_s, ua_n, ua_ua, up_s, u2_s, u2_f, u2_c, u2_u2, Int.natCast_add, Int.zero_add, Int.add_zero, ↓reduceIte, ne_eq, not_true_eq_false, not_false_eq_true, Int.natCast_one, ↓k_X1_fly_0, ↓k_X1_fly_12, ↓k_X1_fly_43, ↓k_X1_fly_89, ↓mc_24, ↓mc_30, ↓zg_30_2, zl_31, zs_31, ↓zn_31, ↓zg_30_0, ↓zg_5_3, ↓mc_5, ↓mc_12, hn]
  · rw [if_neg q]
    have q1 : 0 ≤ s w + f ∧ s w + f < rF R := by omega
    have hl : lndC R (s w + f) = cupAt R (s w + f) := by unfold lndC; rw [if_neg (by omega)]
    have hc0 := cupAt_lo R (s w + f)
    have hc1 := cupAt_hi R (s w + f)
    simp (implicitDefEqProofs := false) (disch := omega) only [↓rI_s, ↓rV_s, ↓rI_e, ↓rV_e, zc_eq, zc_ne, zc_lt, zc_ge, zc_gt, zc_le, zlt_t, zlt_f, zle_t, zle_f, zeq_t, zeq_f, lz, zadd, zsub, zmul, zneg, zb_e0, zb_e1, boo0, boo1, ua_s, ua_n, ua_ua, up_s, u2_s, u2_f, u2_c, u2_u2, Int.natCast_add, Int.zero_add, Int.add_zero, ↓reduceIte, ne_eq, not_true_eq_false, not_false_eq_true, Int.natCast_one, ↓k_X1_fly_0, ↓k_X1_fly_12, ↓k_X1_fly_43, ↓k_X1_fly_89, ↓mc_24, ↓mc_30, ↓zg_30_2, zl_31, zs_31, ↓zn_31, ↓zg_30_0, ↓zg_5_3, ↓mc_5, ↓mc_12, hn]
    rw [c_cupAt (by omega) hR' (by omega)]
    by_cases q2 : cupAt R (s w + f) = -1
    · refine ⟨ua (ua (ua A' 31 (up (A' 31) w (s w + f))) 32 (up (A' 32) w (A' 35 (s w + f)))) 35 (up (A' 35) (s w + f) (A' 35 (s w + f) + 1)), (((fr'.wd rfl).a rfl).a rfl).a rfl, ?_, ?_⟩
      · rw [ua_n (by decide), ua_n (by decide), ua_s, ua_n (by decide), ua_s, ua_n (by decide), ua_n (by decide), ua_n (by decide), ua_n (by decide), ua_n (by decide), ua_n (by decide), ua_s, fr' 33 rfl, fr' 34 rfl, u3, fr' 31 rfl]
        refine hB.go hR.1 h0 h1 (.inr (by omega)) ?_ (fun v v0 v1 hn => up_n hn) ?_ (fun v v0 v1 hn => by rw [up_n hn]; exact u1 v v0 v1 hn) fun y y0 y1 => ?_
        · rw [up_s, hl, q2]; simp only [ne_eq, not_true_eq_false, ↓reduceIte]; unfold enc; rw [if_neg (by omega)]
        · rw [up_s, hl, q2, if_neg (by omega), up_n (by omega)]; exact hB.2.2.2.2.1 _ (by omega) (by omega)
        · rw [hl, q2]
          simp only [ne_eq, not_true_eq_false, ↓reduceIte]
          unfold up
          by_cases e : y = s w + f
          · subst e; rw [if_pos rfl, if_neg (by omega), if_neg (by omega), if_pos rfl]; omega
          · rw [if_neg e, if_neg (show ¬ s w + f = y from fun q => e q.symm)]
            by_cases e2 : y = s w
            · rw [if_pos e2, if_pos e2.symm, e2]; omega
            · rw [if_neg e2, if_neg (fun q => e2 q.symm)]
      · rw [hl]
        simp (implicitDefEqProofs := false) (disch := omega) only [↓rI_s, ↓rV_s, ↓rI_e, ↓rV_e, zc_eq, zc_ne, zc_lt, zc_ge, zc_gt, zc_le, zlt_t, zlt_f, zle_t, zle_f, zeq_t, zeq_f, lz, zadd, zsub, zmul, zneg, zb_e0, zb_e1, boo0, boo1, ua_s, ua_n, ua_ua, up_s, u2_s, u2_f, u2_c, u2_u2, Int.natCast_add, Int.zero_add, Int.add_zero, ↓reduceIte, ne_eq, not_true_eq_false, not_false_eq_true, Int.natCast_one, ↓k_X1_fly_0, ↓k_X1_fly_12, ↓k_X1_fly_43, ↓k_X1_fly_89, ↓mc_24, ↓mc_30, ↓zg_30_2, zl_31, zs_31, ↓zn_31, ↓zg_30_0, ↓zg_5_3, ↓mc_5, ↓mc_12, q2]
        rw [c30_layOnTop (by omega) h0 (by omega) (by omega) (by omega)]
        simp (implicitDefEqProofs := false) (disch := omega) only [↓rI_s, ↓rV_s, ↓rI_e, ↓rV_e, zc_eq, zc_ne, zc_lt, zc_ge, zc_gt, zc_le, zlt_t, zlt_f, zle_t, zle_f, zeq_t, zeq_f, lz, zadd, zsub, zmul, zneg, zb_e0, zb_e1, boo0, boo1, ua_s, ua_n, ua_ua, up_s, u2_s, u2_f, u2_c, u2_u2, Int.natCast_add, Int.zero_add, Int.add_zero, ↓reduceIte, ne_eq, not_true_eq_false, not_false_eq_true, Int.natCast_one, ↓k_X1_fly_0, ↓k_X1_fly_12, ↓k_X1_fly_43, ↓k_X1_fly_89, ↓mc_24, ↓mc_30, ↓zg_30_2, zl_31, zs_31, ↓zn_31, ↓zg_30_0, ↓zg_5_3, ↓mc_5, ↓mc_12]
    · refine ⟨ua A' 31 (up (A' 31) w (-3 - cupAt R (s w + f))), (fr'.wd rfl).a rfl, ?_, ?_⟩
      · rw [ua_s, ua_n (by decide), ua_n (by decide), ua_n (by decide), ua_n (by decide), fr' 33 rfl, fr' 34 rfl, u3, fr' 31 rfl]
        refine hB.go hR.1 h0 h1 (.inr (by omega)) ?_ (fun v v0 v1 hn => up_n hn) ?_ u1 fun y y0 y1 => ?_
        · rw [up_s, hl, if_pos q2, if_neg q2]; rfl
        · rw [u2, if_pos (.inr (by rw [hl]; exact q2))]
        · rw [hl, if_pos q2, if_neg (show ¬ (-3 : Int) = y by omega)]
          unfold up
          by_cases e2 : y = s w
          · rw [if_pos e2, if_pos e2.symm, e2]; omega
          · rw [if_neg e2, if_neg (fun q => e2 q.symm)]
      · rw [hl]
        simp (implicitDefEqProofs := false) (disch := omega) only [↓rI_s, ↓rV_s, ↓rI_e, ↓rV_e, zc_eq, zc_ne, zc_lt, zc_ge, zc_gt, zc_le, zlt_t, zlt_f, zle_t, zle_f, zeq_t, zeq_f, lz, zadd, zsub, zmul, zneg, zb_e0, zb_e1, boo0, boo1, ua_s, ua_n, ua_ua, up_s, u2_s, u2_f, u2_c, u2_u2, Int.natCast_add, Int.zero_add, Int.add_zero, ↓reduceIte, ne_eq, not_true_eq_false, not_false_eq_true, Int.natCast_one, ↓k_X1_fly_0, ↓k_X1_fly_12, ↓k_X1_fly_43, ↓k_X1_fly_89, ↓mc_24, ↓mc_30, ↓zg_30_2, zl_31, zs_31, ↓zn_31, ↓zg_30_0, ↓zg_5_3, ↓mc_5, ↓mc_12]
end CM
