--DEPS 60.cmut
/-! Bits. -/
theorem bit_d : ∀ j : Fin 10, ∀ m : Fin 1024, (zI (m.val : Int) >>> (zI (j.val : Int) &&& zI 31)) &&& zI 1 = zI ((m.val : Int) / 2 ^ j.val % 2) := by decide +kernel
theorem bts_div {p : Nat → Bool} : ∀ {n j : Nat}, j < n → bts n p / 2 ^ j % 2 = if p j = true then 1 else 0
  | 0, j, h => by omega
  | n + 1, j, h => by
    have hp : (0 : Int) < 2 ^ j := Int.pow_pos (by decide)
    show (bts n p + (if p n = true then (2 : Int) ^ n else 0)) / 2 ^ j % 2 = _
    by_cases e : j = n
    · subst e
      have h0 := bts_lo j p
      have h1 := bts_hi j p
      split
      · rw [Int.add_ediv_of_dvd_right (Int.dvd_refl _), Int.ediv_eq_zero_of_lt h0 h1, Int.ediv_self (by omega)]; rfl
      · rw [Int.add_zero, Int.ediv_eq_zero_of_lt h0 h1]; rfl
    · have ih := bts_div (p := p) (n := n) (j := j) (by omega)
      split
      · obtain ⟨q, rfl⟩ : ∃ q, n = j + 1 + q := ⟨n - (j + 1), by omega⟩
        have e1 : (2 : Int) ^ (j + 1 + q) = 2 ^ j * (2 * 2 ^ q) := by rw [Int.pow_add, Int.pow_succ, Int.mul_assoc]
        rw [e1, Int.add_mul_ediv_left _ _ (by omega)]
        omega
      · rw [Int.add_zero]; exact ih
theorem bts_bit {p : Nat → Bool} {n j : Nat} (hn : n ≤ 10) (h : j < n) : (zI (bts n p) >>> (zI (j : Int) &&& zI 31)) &&& zI 1 = zI (if p j = true then 1 else 0) := by
  have h0 := bts_lo n p
  have h1 := bts_hi n p
  obtain ⟨m, hm⟩ := Int.eq_ofNat_of_zero_le h0
  have hb : (2 : Int) ^ n = ((2 ^ n : Nat) : Int) := by rw [Int.natCast_pow]; rfl
  have h2 : 2 ^ n ≤ 2 ^ 10 := Nat.pow_le_pow_right (by decide) hn
  have := bit_d ⟨j, by omega⟩ ⟨m, by omega⟩
  dsimp only at this
  rw [hm, this, ← hm, bts_div h]
theorem bts_z {p : Nat → Bool} : ∀ {n : Nat}, bts n p = 0 ↔ ∀ k, k < n → ¬ p k = true
  | 0 => ⟨fun _ k hk => absurd hk (by omega), fun _ => rfl⟩
  | n + 1 => by
    have ih := bts_z (p := p) (n := n)
    have h0 := bts_lo n p
    have hp : (0 : Int) < 2 ^ n := Int.pow_pos (by decide)
    show bts n p + (if p n = true then (2 : Int) ^ n else 0) = 0 ↔ _
    constructor
    · intro h k hk
      split at h
      · omega
      · rename_i q
        by_cases e : k = n
        · subst e; exact q
        · exact ih.mp (by omega) k (by omega)
    · intro h
      rw [if_neg (h n (by omega)), ih.mpr fun k hk => h k (by omega)]; rfl
theorem bts_b {n : Nat} (hn : n ≤ 10) (p : Nat → Bool) : 0 ≤ bts n p ∧ bts n p < 1024 := by
  have h0 := bts_lo n p
  have h1 := bts_hi n p
  have hb : (2 : Int) ^ n = ((2 ^ n : Nat) : Int) := by rw [Int.natCast_pow]; rfl
  have h2 : 2 ^ n ≤ 2 ^ 10 := Nat.pow_le_pow_right (by decide) hn
  omega
theorem zif {a b c e : Int} (h : -2147483648 ≤ a ∧ a < 2147483648 ∧ -2147483648 ≤ b ∧ b < 2147483648) : (if zI a < zI b then zI c else zI e) = zI (if a < b then c else e) := by
  by_cases q : a < b
  · rw [if_pos q, if_pos (by rw [zlt h.1 h.2.1 h.2.2.1 h.2.2.2]; exact q)]
  · rw [if_neg q, if_neg (by rw [zlt h.1 h.2.1 h.2.2.1 h.2.2.2]; exact q)]
theorem bR.f1 {R : zR} {s cl un sh co he : Int → Int} {dy dm w : Int} (hB : bR R s cl un sh co he dy dm) (hR : wR R) (h0 : 0 ≤ w) (h1 : w < rW R) : bR R (flk1 R s w) cl un (up sh w (s (20 + w) + 1)) (up co (rO R w) (s (40 + rO R w) - 1)) he dy dm := by
  have h10 := hR.2.1
  have h5 := hR.1
  have ho := hR.o h0 h1
  obtain ⟨b1, b2, b3, b4, b5, b6, b7⟩ := hB
  unfold flk1
  refine ⟨fun v v0 v1 => ?_, fun v v0 v1 => ?_, fun v v0 v1 => ?_, fun k k0 k1 => ?_, fun y y0 y1 => ?_, ?_, ?_⟩
  · rw [up_n (by omega), up_n (by omega), up_n (by omega), up_n (by omega)]; exact b1 v v0 v1
  · rw [up_n (by omega), up_n (by omega)]; exact b2 v v0 v1
  · by_cases e : v = w
    · subst e; rw [up_s, up_s]
    · rw [up_n e, up_n (by omega), up_n (by omega)]; exact b3 v v0 v1
  · by_cases e : k = rO R w
    · subst e; rw [up_s, up_n (by omega), up_s]
    · rw [up_n e, up_n (by omega), up_n (by omega)]; exact b4 k k0 k1
  · rw [b5 y y0 y1]; exact many_cg (fun v v0 v1 => by rw [up_n (by omega), up_n (by omega)]) y
  · rw [up_n (by omega), up_n (by omega)]; exact b6
  · rw [up_n (by omega), up_n (by omega)]; exact b7
theorem bR.co {R : zR} {s cl un sh co he : Int → Int} {dy dm h v : Int} (hB : bR R s cl un sh co he dy dm) (hR : wR R) (h0 : 0 ≤ h) (h1 : h < rH R) : bR R (up s (40 + h) v) cl un sh (up co h v) he dy dm := by
  have h10 := hR.2.1
  have h5 := hR.1
  obtain ⟨b1, b2, b3, b4, b5, b6, b7⟩ := hB
  refine ⟨fun v v0 v1 => ?_, fun v v0 v1 => ?_, fun v v0 v1 => ?_, fun k k0 k1 => ?_, fun y y0 y1 => ?_, ?_, ?_⟩
  · rw [up_n (by omega), up_n (by omega)]; exact b1 v v0 v1
  · rw [up_n (by omega)]; exact b2 v v0 v1
  · rw [up_n (by omega)]; exact b3 v v0 v1
  · by_cases e : k = h
    · subst e; rw [up_s, up_s]
    · rw [up_n e, up_n (by omega)]; exact b4 k k0 k1
  · rw [b5 y y0 y1]; exact many_cg (fun v v0 v1 => by rw [up_n (by omega)]) y
  · rw [up_n (by omega)]; exact b6
  · rw [up_n (by omega)]; exact b7
section CM
variable {d : Nat} {I : Nat → Nat → Int} {A : Nat → Int → Int} {W : qWt} {R : zR} {F : zF} {s : Int → Int} {kx : Nat → Nat → qH → qR} {k : Int32 → qH → qR}
theorem c24_flick {w p h : Int} (hd : 4 ≤ d) (hR : cR R I A) (hB : bR R s (A 25) (A 26) (A 27) (A 28) (A 29) (I 24 7) (I 24 8)) (hs : sP R s) (hV : sV R s) (hL : cL F I A) (h0 : 0 ≤ w) (h1 : w < rW R) (hh : h = 0 ∨ h = 1) : ∃ A', fr [22, 23, 25, 26, 27, 28, 29] A A' ∧ bR R (flk R F s w p h) (A' 25) (A' 26) (A' 27) (A' 28) (A' 29) (I 24 7) (I 24 8) ∧ q_call q_MT d 39 [.ref 24, .int (zI w), .int (zI p), .int (zI h)] (zM I A W) = some (.inl (some (.int (zI (zb (canF R s w))))), zM I A' W) := by
  obtain ⟨d, rfl⟩ : ∃ e, d = e + 1 := ⟨d - 1, by omega⟩
  have hw := hR.1.2.1
  have h5 := hR.1.1
  have hfe := hR.1.2.2.2.2.1
  have hc4 := hR.1.2.2.1
  have ho := hR.1.o h0 h1
  have eo := hR.2.2.2.2.2.2.1 w h0 h1
  have bo := hB.2.2.2.1 (rO R w) ho.1 ho.2
  have po := hV.2.2.2.2 (rO R w) ho.1 ho.2
  have bsh := hB.2.2.1 w h0 h1
  have hF := flA_b (R := R) hL.w s w p
  rw [cl_X1_flick]
  simp (implicitDefEqProofs := false) (disch := omega) only [↓rI_s, ↓rV_s, ↓rI_e, ↓rV_e, zc_eq, zc_ne, zc_lt, zc_ge, zc_gt, zc_le, zlt_t, zlt_f, zle_t, zle_f, zeq_t, zeq_f, lz, zadd, zsub, zmul, zneg, zb_e0, zb_e1, boo0, boo1, ua_s, ua_n, ua_ua, up_s, u2_s, u2_f, u2_c, u2_u2, Int.natCast_add, Int.zero_add, Int.add_zero, ↓reduceIte, ne_eq, not_true_eq_false, not_false_eq_true, Int.natCast_one, ↓k_X1_flick_0, ↓mc_24, ↓zg_24_0, ↓zg_5_6, zl_7, eo]
  rw [c24_isFree (by omega) hR hB hs h0 h1]
  by_cases q1 : free R s w
  · by_cases q2 : s (40 + rO R w) = 0
    · refine ⟨A, fr.refl, ?_, ?_⟩
      · rw [flk, if_neg (fun q => q.2 q2)]; exact hB
      · rw [zb_t q1, zb_f (p := canF R s w) (fun q => q.2 q2)]
        simp (implicitDefEqProofs := false) (disch := omega) only [↓rI_s, ↓rV_s, ↓rI_e, ↓rV_e, zc_eq, zc_ne, zc_lt, zc_ge, zc_gt, zc_le, zlt_t, zlt_f, zle_t, zle_f, zeq_t, zeq_f, lz, zadd, zsub, zmul, zneg, zb_e0, zb_e1, boo0, boo1, ua_s, ua_n, ua_ua, up_s, u2_s, u2_f, u2_c, u2_u2, Int.natCast_add, Int.zero_add, Int.add_zero, ↓reduceIte, ne_eq, not_true_eq_false, not_false_eq_true, Int.natCast_one, ↓k_X1_flick_0, ↓k_X1_flick_30, ↓k_X1_flick_75, ↓k_X1_flick_117, ↓zg_24_0, ↓zg_5_6, zl_7, zs_7, ↓zn_7, ↓mc_24, ↓mc_30, ↓zg_24_5, zl_28, zs_28, ↓zn_28, ↓zg_24_4, zl_27, zs_27, ↓zn_27, ↓zg_5_10, zl_11, zs_11, ↓zn_11, bo]
    · obtain ⟨A1, f1, e1⟩ := c24_flight (p := p) (W := W) (show 3 ≤ d by omega) hR hB hs hL h0 h1
      rw [zb_t q1, zb_t (p := canF R s w) ⟨q1, q2⟩]
      have bo1 : A1 28 (rO R w) = s (40 + rO R w) := by rw [f1 28 rfl]; exact bo
      have bsh1 : A1 27 w = s (20 + w) := by rw [f1 27 rfl]; exact bsh
      have hB1 : bR R (flk1 R s w) (A1 25) (A1 26) (up (A1 27) w (s (20 + w) + 1)) (up (A1 28) (rO R w) (s (40 + rO R w) - 1)) (A1 29) (I 24 7) (I 24 8) := by
        rw [f1 25 rfl, f1 26 rfl, f1 27 rfl, f1 28 rfl, f1 29 rfl]; exact hB.f1 hR.1 h0 h1
      have hV1 := hV.f1 hR.1 h0 h1 q2
      have ew : flk1 R s w w = s w := flk1_p hw h0 ho.1 (by omega)
      have e2 : ∃ A', fr [22, 23, 25, 26, 27, 28, 29] A A' ∧ bR R (flkX R s w (dn R F s w p h)) (A' 25) (A' 26) (A' 27) (A' 28) (A' 29) (I 24 7) (I 24 8) ∧ ∀ l1 l2 l3 l5 l6 : Value, q_run qm_X1_flick (q_call q_MT d) 75 [.ref 24, l1, l2, l3, .int (zI (rO R w)), l5, l6] [.int (zI (if h = 0 then flA R F s w p else -flA R F s w p)), .int (zI w), .ref 24] (zM I (ua (ua A1 28 (up (A1 28) (rO R w) (s (40 + rO R w) - 1))) 27 (up (A1 27) w (s (20 + w) + 1))) W) = some (.inl (some (.int (zI 1))), zM I A' W) := by
        by_cases q3 : flA R F s w p = 0
        · have e3 : (if h = 0 then flA R F s w p else -flA R F s w p) = 0 := by rw [q3]; split <;> rfl
          have e4 : dn R F s w p h = s w := by
            have := (hs w h0 h1).1
            unfold dn; rw [e3, if_neg (by omega)]; omega
          refine ⟨ua (ua A1 28 (up (A1 28) (rO R w) (s (40 + rO R w) - 1))) 27 (up (A1 27) w (s (20 + w) + 1)), ((f1.wd rfl).a rfl).a rfl, ?_, fun l1 l2 l3 l5 l6 => ?_⟩
          · rw [flkX, if_pos e4]; exact hB1
          · rw [k_X1_flick_75, e3]
            simp (implicitDefEqProofs := false) (disch := omega) only [↓rI_s, ↓rV_s, ↓rI_e, ↓rV_e, zc_eq, zc_ne, zc_lt, zc_ge, zc_gt, zc_le, zlt_t, zlt_f, zle_t, zle_f, zeq_t, zeq_f, lz, zadd, zsub, zmul, zneg, zb_e0, zb_e1, boo0, boo1, ua_s, ua_n, ua_ua, up_s, u2_s, u2_f, u2_c, u2_u2, Int.natCast_add, Int.zero_add, Int.add_zero, ↓reduceIte, ne_eq, not_true_eq_false, not_false_eq_true, Int.natCast_one, ↓mc_24, c24_fly0 (show 2 ≤ d by omega), ↓k_X1_flick_117]
        · generalize hfe2 : (if h = 0 then flA R F s w p else -flA R F s w p) = f
          have hf0 : f ≠ 0 ∧ -100 ≤ f ∧ f ≤ 100 := by rw [← hfe2]; split <;> omega
          obtain ⟨A2, f2, hB2, e5⟩ := c24_fly (A := ua (ua A1 28 (up (A1 28) (rO R w) (s (40 + rO R w) - 1))) 27 (up (A1 27) w (s (20 + w) + 1))) (f := f) (W := W) (show 2 ≤ d by omega) ((hR.fr f1 rfl).fr (L := [27, 28]) ((fr.refl.a rfl).a rfl) rfl) hB1 hV1.1 h0 h1 (by rw [ew]; exact q1.1) hf0.1 hf0.2
          rw [ew] at hB2 e5
          have e4 : dn R F s w p h = if s w + f < 0 ∨ rF R ≤ s w + f then -2 else s w + f := by unfold dn; rw [hfe2]
          rw [← e4] at hB2 e5
          have hne : dn R F s w p h ≠ s w := by rw [e4]; split <;> omega
          have f3 : fr [22, 23, 25, 26, 27, 28, 29] A A2 := (((f1.wd rfl).a rfl).a rfl).tr (f2.wd rfl)
          have hR2 := hR.fr f3 rfl
          have hc0 := lndC_lo R (dn R F s w p h)
          have hc1 := lndC_hi R (dn R F s w p h)
          by_cases q4 : lndC R (dn R F s w p h) = -1
          · refine ⟨A2, f3, ?_, fun l1 l2 l3 l5 l6 => ?_⟩
            · rw [flkX, if_neg hne, if_pos q4]; exact hB2
            · rw [k_X1_flick_75]
              simp (implicitDefEqProofs := false) (disch := omega) only [↓rI_s, ↓rV_s, ↓rI_e, ↓rV_e, zc_eq, zc_ne, zc_lt, zc_ge, zc_gt, zc_le, zlt_t, zlt_f, zle_t, zle_f, zeq_t, zeq_f, lz, zadd, zsub, zmul, zneg, zb_e0, zb_e1, boo0, boo1, ua_s, ua_n, ua_ua, up_s, u2_s, u2_f, u2_c, u2_u2, Int.natCast_add, Int.zero_add, Int.add_zero, ↓reduceIte, ne_eq, not_true_eq_false, not_false_eq_true, Int.natCast_one, ↓mc_24, e5, q4, ↓k_X1_flick_117]
          · have ep := hR2.2.2.2.2.2.2.2.2.2 (lndC R (dn R F s w p h)) (by omega) hc1
            have bp := hR.1.2.2.2.2.2.2.2.2.2.2 (lndC R (dn R F s w p h)) (by omega) hc1
            have bo2 := hB2.2.2.2.1 (rO R w) ho.1 ho.2
            have bo3 : lnd R (flk1 R s w) w (dn R F s w p h) (40 + rO R w) = s (40 + rO R w) - 1 := by
              rw [lnd_o hw h0 h1 (by omega) (by omega), flk1, up_n (by omega), up_s]
            refine ⟨ua A2 28 (up (A2 28) (rO R w) (if 9999 < s (40 + rO R w) - 1 + rP R (lndC R (dn R F s w p h)) then 9999 else s (40 + rO R w) - 1 + rP R (lndC R (dn R F s w p h)))), f3.a rfl, ?_, fun l1 l2 l3 l5 l6 => ?_⟩
            · rw [flkX, if_neg hne, if_neg q4, ern, bo3]; exact hB2.co hR.1 ho.1 ho.2
            · rw [bo3] at bo2
              rw [k_X1_flick_75]
              simp (implicitDefEqProofs := false) (disch := omega) only [↓rI_s, ↓rV_s, ↓rI_e, ↓rV_e, zc_eq, zc_ne, zc_lt, zc_ge, zc_gt, zc_le, zlt_t, zlt_f, zle_t, zle_f, zeq_t, zeq_f, lz, zadd, zsub, zmul, zneg, zb_e0, zb_e1, boo0, boo1, ua_s, ua_n, ua_ua, up_s, u2_s, u2_f, u2_c, u2_u2, Int.natCast_add, Int.zero_add, Int.add_zero, ↓reduceIte, ne_eq, not_true_eq_false, not_false_eq_true, Int.natCast_one, ↓mc_24, e5, ↓k_X1_flick_117, ↓zg_24_5, ↓zg_24_0, ↓zg_5_10, zl_28, zs_28, zl_11, ep, bo2, zif]
      obtain ⟨A', f', hB', e3⟩ := e2
      refine ⟨A', f', ?_, ?_⟩
      · rw [flk, if_pos ⟨q1, q2⟩]; exact hB'
      · rcases hh with rfl | rfl
        · simp (implicitDefEqProofs := false) (disch := omega) only [↓rI_s, ↓rV_s, ↓rI_e, ↓rV_e, zc_eq, zc_ne, zc_lt, zc_ge, zc_gt, zc_le, zlt_t, zlt_f, zle_t, zle_f, zeq_t, zeq_f, lz, zadd, zsub, zmul, zneg, zb_e0, zb_e1, boo0, boo1, ua_s, ua_n, ua_ua, up_s, u2_s, u2_f, u2_c, u2_u2, Int.natCast_add, Int.zero_add, Int.add_zero, ↓reduceIte, ne_eq, not_true_eq_false, not_false_eq_true, Int.natCast_one, ↓k_X1_flick_0, ↓k_X1_flick_30, ↓mc_24, e1, ↓zg_24_5, ↓zg_24_4, zl_28, zl_27, zs_28, zs_27, bo, bo1, bsh1]
          exact e3 _ _ _ _ _
        · simp (implicitDefEqProofs := false) (disch := omega) only [↓rI_s, ↓rV_s, ↓rI_e, ↓rV_e, zc_eq, zc_ne, zc_lt, zc_ge, zc_gt, zc_le, zlt_t, zlt_f, zle_t, zle_f, zeq_t, zeq_f, lz, zadd, zsub, zmul, zneg, zb_e0, zb_e1, boo0, boo1, ua_s, ua_n, ua_ua, up_s, u2_s, u2_f, u2_c, u2_u2, Int.natCast_add, Int.zero_add, Int.add_zero, ↓reduceIte, ne_eq, not_true_eq_false, not_false_eq_true, Int.natCast_one, ↓k_X1_flick_0, ↓k_X1_flick_30, ↓mc_24, e1, ↓zg_24_5, ↓zg_24_4, zl_28, zl_27, zs_28, zs_27, bo, bo1, bsh1]
          exact e3 _ _ _ _ _
  · refine ⟨A, fr.refl, ?_, ?_⟩
    · rw [flk, if_neg (fun q => q1 q.1)]; exact hB
    · rw [zb_f q1, zb_f (p := canF R s w) (fun q => q1 q.1)]
      simp (implicitDefEqProofs := false) (disch := omega) only [↓rI_s, ↓rV_s, ↓rI_e, ↓rV_e, zc_eq, zc_ne, zc_lt, zc_ge, zc_gt, zc_le, zlt_t, zlt_f, zle_t, zle_f, zeq_t, zeq_f, lz, zadd, zsub, zmul, zneg, zb_e0, zb_e1, boo0, boo1, ua_s, ua_n, ua_ua, up_s, u2_s, u2_f, u2_c, u2_u2, Int.natCast_add, Int.zero_add, Int.add_zero, ↓reduceIte, ne_eq, not_true_eq_false, not_false_eq_true, Int.natCast_one, ↓k_X1_flick_0, ↓k_X1_flick_30, ↓k_X1_flick_75, ↓k_X1_flick_117, ↓zg_24_0, ↓zg_5_6, zl_7, zs_7, ↓zn_7, ↓mc_24, ↓mc_30, ↓zg_24_5, zl_28, zs_28, ↓zn_28, ↓zg_24_4, zl_27, zs_27, ↓zn_27, ↓zg_5_10, zl_11, zs_11, ↓zn_11]
theorem c30_flick {w p h : Int} (hd : 4 ≤ d) (hR : cR R I A) (hB : bR R s (A 31) (A 32) (A 33) (A 34) (A 35) (I 30 7) (I 30 8)) (hs : sP R s) (hV : sV R s) (hL : cL F I A) (h0 : 0 ≤ w) (h1 : w < rW R) (hh : h = 0 ∨ h = 1) : ∃ A', fr [22, 23, 31, 32, 33, 34, 35] A A' ∧ bR R (flk R F s w p h) (A' 31) (A' 32) (A' 33) (A' 34) (A' 35) (I 30 7) (I 30 8) ∧ q_call q_MT d 39 [.ref 30, .int (zI w), .int (zI p), .int (zI h)] (zM I A W) = some (.inl (some (.int (zI (zb (canF R s w))))), zM I A' W) := by
  obtain ⟨d, rfl⟩ : ∃ e, d = e + 1 := ⟨d - 1, by omega⟩
  have hw := hR.1.2.1
  have h5 := hR.1.1
  have hfe := hR.1.2.2.2.2.1
  have hc4 := hR.1.2.2.1
  have ho := hR.1.o h0 h1
  have eo := hR.2.2.2.2.2.2.1 w h0 h1
  have bo := hB.2.2.2.1 (rO R w) ho.1 ho.2
  have po := hV.2.2.2.2 (rO R w) ho.1 ho.2
  have bsh := hB.2.2.1 w h0 h1
  have hF := flA_b (R := R) hL.w s w p
  rw [cl_X1_flick]
  simp (implicitDefEqProofs := false) (disch := omega) only [↓rI_s, ↓rV_s, ↓rI_e, ↓rV_e, zc_eq, zc_ne, zc_lt, zc_ge, zc_gt, zc_le, zlt_t, zlt_f, zle_t, zle_f, zeq_t, zeq_f, lz, zadd, zsub, zmul, zneg, zb_e0, zb_e1, boo0, boo1, ua_s, ua_n, ua_ua, up_s, u2_s, u2_f, u2_c, u2_u2, Int.natCast_add, Int.zero_add, Int.add_zero, ↓reduceIte, ne_eq, not_true_eq_false, not_false_eq_true, Int.natCast_one, ↓k_X1_flick_0, ↓mc_30, ↓zg_30_0, ↓zg_5_6, zl_7, eo]
  rw [c30_isFree (by omega) hR hB hs h0 h1]
  by_cases q1 : free R s w
  · by_cases q2 : s (40 + rO R w) = 0
    · refine ⟨A, fr.refl, ?_, ?_⟩
      · rw [flk, if_neg (fun q => q.2 q2)]; exact hB
      · rw [zb_t q1, zb_f (p := canF R s w) (fun q => q.2 q2)]
        simp (implicitDefEqProofs := false) (disch := omega) only [↓rI_s, ↓rV_s, ↓rI_e, ↓rV_e, zc_eq, zc_ne, zc_lt, zc_ge, zc_gt, zc_le, zlt_t, zlt_f, zle_t, zle_f, zeq_t, zeq_f, lz, zadd, zsub, zmul, zneg, zb_e0, zb_e1, boo0, boo1, ua_s, ua_n, ua_ua, up_s, u2_s, u2_f, u2_c, u2_u2, Int.natCast_add, Int.zero_add, Int.add_zero, ↓reduceIte, ne_eq, not_true_eq_false, not_false_eq_true, Int.natCast_one, ↓k_X1_flick_0, ↓k_X1_flick_30, ↓k_X1_flick_75, ↓k_X1_flick_117, ↓zg_30_0, ↓zg_5_6, zl_7, zs_7, ↓zn_7, ↓mc_24, ↓mc_30, ↓zg_30_5, zl_34, zs_34, ↓zn_34, ↓zg_30_4, zl_33, zs_33, ↓zn_33, ↓zg_5_10, zl_11, zs_11, ↓zn_11, bo]
    · obtain ⟨A1, f1, e1⟩ := c30_flight (p := p) (W := W) (show 3 ≤ d by omega) hR hB hs hL h0 h1
      rw [zb_t q1, zb_t (p := canF R s w) ⟨q1, q2⟩]
      have bo1 : A1 34 (rO R w) = s (40 + rO R w) := by rw [f1 34 rfl]; exact bo
      have bsh1 : A1 33 w = s (20 + w) := by rw [f1 33 rfl]; exact bsh
      have hB1 : bR R (flk1 R s w) (A1 31) (A1 32) (up (A1 33) w (s (20 + w) + 1)) (up (A1 34) (rO R w) (s (40 + rO R w) - 1)) (A1 35) (I 30 7) (I 30 8) := by
        rw [f1 31 rfl, f1 32 rfl, f1 33 rfl, f1 34 rfl, f1 35 rfl]; exact hB.f1 hR.1 h0 h1
      have hV1 := hV.f1 hR.1 h0 h1 q2
      have ew : flk1 R s w w = s w := flk1_p hw h0 ho.1 (by omega)
      have e2 : ∃ A', fr [22, 23, 31, 32, 33, 34, 35] A A' ∧ bR R (flkX R s w (dn R F s w p h)) (A' 31) (A' 32) (A' 33) (A' 34) (A' 35) (I 30 7) (I 30 8) ∧ ∀ l1 l2 l3 l5 l6 : Value, q_run qm_X1_flick (q_call q_MT d) 75 [.ref 30, l1, l2, l3, .int (zI (rO R w)), l5, l6] [.int (zI (if h = 0 then flA R F s w p else -flA R F s w p)), .int (zI w), .ref 30] (zM I (ua (ua A1 34 (up (A1 34) (rO R w) (s (40 + rO R w) - 1))) 33 (up (A1 33) w (s (20 + w) + 1))) W) = some (.inl (some (.int (zI 1))), zM I A' W) := by
        by_cases q3 : flA R F s w p = 0
        · have e3 : (if h = 0 then flA R F s w p else -flA R F s w p) = 0 := by rw [q3]; split <;> rfl
          have e4 : dn R F s w p h = s w := by
            have := (hs w h0 h1).1
            unfold dn; rw [e3, if_neg (by omega)]; omega
          refine ⟨ua (ua A1 34 (up (A1 34) (rO R w) (s (40 + rO R w) - 1))) 33 (up (A1 33) w (s (20 + w) + 1)), ((f1.wd rfl).a rfl).a rfl, ?_, fun l1 l2 l3 l5 l6 => ?_⟩
          · rw [flkX, if_pos e4]; exact hB1
          · rw [k_X1_flick_75, e3]
            simp (implicitDefEqProofs := false) (disch := omega) only [↓rI_s, ↓rV_s, ↓rI_e, ↓rV_e, zc_eq, zc_ne, zc_lt, zc_ge, zc_gt, zc_le, zlt_t, zlt_f, zle_t, zle_f, zeq_t, zeq_f, lz, zadd, zsub, zmul, zneg, zb_e0, zb_e1, boo0, boo1, ua_s, ua_n, ua_ua, up_s, u2_s, u2_f, u2_c, u2_u2, Int.natCast_add, Int.zero_add, Int.add_zero, ↓reduceIte, ne_eq, not_true_eq_false, not_false_eq_true, Int.natCast_one, ↓mc_30, c30_fly0 (show 2 ≤ d by omega), ↓k_X1_flick_117]
        · generalize hfe2 : (if h = 0 then flA R F s w p else -flA R F s w p) = f
          have hf0 : f ≠ 0 ∧ -100 ≤ f ∧ f ≤ 100 := by rw [← hfe2]; split <;> omega
          obtain ⟨A2, f2, hB2, e5⟩ := c30_fly (A := ua (ua A1 34 (up (A1 34) (rO R w) (s (40 + rO R w) - 1))) 33 (up (A1 33) w (s (20 + w) + 1))) (f := f) (W := W) (show 2 ≤ d by omega) ((hR.fr f1 rfl).fr (L := [33, 34]) ((fr.refl.a rfl).a rfl) rfl) hB1 hV1.1 h0 h1 (by rw [ew]; exact q1.1) hf0.1 hf0.2
          rw [ew] at hB2 e5
          have e4 : dn R F s w p h = if s w + f < 0 ∨ rF R ≤ s w + f then -2 else s w + f := by unfold dn; rw [hfe2]
          rw [← e4] at hB2 e5
          have hne : dn R F s w p h ≠ s w := by rw [e4]; split <;> omega
          have f3 : fr [22, 23, 31, 32, 33, 34, 35] A A2 := (((f1.wd rfl).a rfl).a rfl).tr (f2.wd rfl)
          have hR2 := hR.fr f3 rfl
          have hc0 := lndC_lo R (dn R F s w p h)
          have hc1 := lndC_hi R (dn R F s w p h)
          by_cases q4 : lndC R (dn R F s w p h) = -1
          · refine ⟨A2, f3, ?_, fun l1 l2 l3 l5 l6 => ?_⟩
            · rw [flkX, if_neg hne, if_pos q4]; exact hB2
            · rw [k_X1_flick_75]
              simp (implicitDefEqProofs := false) (disch := omega) only [↓rI_s, ↓rV_s, ↓rI_e, ↓rV_e, zc_eq, zc_ne, zc_lt, zc_ge, zc_gt, zc_le, zlt_t, zlt_f, zle_t, zle_f, zeq_t, zeq_f, lz, zadd, zsub, zmul, zneg, zb_e0, zb_e1, boo0, boo1, ua_s, ua_n, ua_ua, up_s, u2_s, u2_f, u2_c, u2_u2, Int.natCast_add, Int.zero_add, Int.add_zero, ↓reduceIte, ne_eq, not_true_eq_false, not_false_eq_true, Int.natCast_one, ↓mc_30, e5, q4, ↓k_X1_flick_117]
          · have ep := hR2.2.2.2.2.2.2.2.2.2 (lndC R (dn R F s w p h)) (by omega) hc1
            have bp := hR.1.2.2.2.2.2.2.2.2.2.2 (lndC R (dn R F s w p h)) (by omega) hc1
            have bo2 := hB2.2.2.2.1 (rO R w) ho.1 ho.2
            have bo3 : lnd R (flk1 R s w) w (dn R F s w p h) (40 + rO R w) = s (40 + rO R w) - 1 := by
              rw [lnd_o hw h0 h1 (by omega) (by omega), flk1, up_n (by omega), up_s]
            refine ⟨ua A2 34 (up (A2 34) (rO R w) (if 9999 < s (40 + rO R w) - 1 + rP R (lndC R (dn R F s w p h)) then 9999 else s (40 + rO R w) - 1 + rP R (lndC R (dn R F s w p h)))), f3.a rfl, ?_, fun l1 l2 l3 l5 l6 => ?_⟩
            · rw [flkX, if_neg hne, if_neg q4, ern, bo3]; exact hB2.co hR.1 ho.1 ho.2
            · rw [bo3] at bo2
              rw [k_X1_flick_75]
              simp (implicitDefEqProofs := false) (disch := omega) only [↓rI_s, ↓rV_s, ↓rI_e, ↓rV_e, zc_eq, zc_ne, zc_lt, zc_ge, zc_gt, zc_le, zlt_t, zlt_f, zle_t, zle_f, zeq_t, zeq_f, lz, zadd, zsub, zmul, zneg, zb_e0, zb_e1, boo0, boo1, ua_s, ua_n, ua_ua, up_s, u2_s, u2_f, u2_c, u2_u2, Int.natCast_add, Int.zero_add, Int.add_zero, ↓reduceIte, ne_eq, not_true_eq_false, not_false_eq_true, Int.natCast_one, ↓mc_30, e5, ↓k_X1_flick_117, ↓zg_30_5, ↓zg_30_0, ↓zg_5_10, zl_34, zs_34, zl_11, ep, bo2, zif]
      obtain ⟨A', f', hB', e3⟩ := e2
      refine ⟨A', f', ?_, ?_⟩
      · rw [flk, if_pos ⟨q1, q2⟩]; exact hB'
      · rcases hh with rfl | rfl
        · simp (implicitDefEqProofs := false) (disch := omega) only [↓rI_s, ↓rV_s, ↓rI_e, ↓rV_e, zc_eq, zc_ne, zc_lt, zc_ge, zc_gt, zc_le, zlt_t, zlt_f, zle_t, zle_f, zeq_t, zeq_f, lz, zadd, zsub, zmul, zneg, zb_e0, zb_e1, boo0, boo1, ua_s, ua_n, ua_ua, up_s, u2_s, u2_f, u2_c, u2_u2, Int.natCast_add, Int.zero_add, Int.add_zero, ↓reduceIte, ne_eq, not_true_eq_false, not_false_eq_true, Int.natCast_one, ↓k_X1_flick_0, ↓k_X1_flick_30, ↓mc_30, e1, ↓zg_30_5, ↓zg_30_4, zl_34, zl_33, zs_34, zs_33, bo, bo1, bsh1]
          exact e3 _ _ _ _ _
        · simp (implicitDefEqProofs := false) (disch := omega) only [↓rI_s, ↓rV_s, ↓rI_e, ↓rV_e, zc_eq, zc_ne, zc_lt, zc_ge, zc_gt, zc_le, zlt_t, zlt_f, zle_t, zle_f, zeq_t, zeq_f, lz, zadd, zsub, zmul, zneg, zb_e0, zb_e1, boo0, boo1, ua_s, ua_n, ua_ua, up_s, u2_s, u2_f, u2_c, u2_u2, Int.natCast_add, Int.zero_add, Int.add_zero, ↓reduceIte, ne_eq, not_true_eq_false, not_false_eq_true, Int.natCast_one, ↓k_X1_flick_0, ↓k_X1_flick_30, ↓mc_30, e1, ↓zg_30_5, ↓zg_30_4, zl_34, zl_33, zs_34, zs_33, bo, bo1, bsh1]
          exact e3 _ _ _ _ _
  · refine ⟨A, fr.refl, ?_, ?_⟩
    · rw [flk, if_neg (fun q => q1 q.1)]; exact hB
    · rw [zb_f q1, zb_f (p := canF R s w) (fun q => q1 q.1)]
      simp (implicitDefEqProofs := false) (disch := omega) only [↓rI_s, ↓rV_s, ↓rI_e, ↓rV_e, zc_eq, zc_ne, zc_lt, zc_ge, zc_gt, zc_le, zlt_t, zlt_f, zle_t, zle_f, zeq_t, zeq_f, lz, zadd, zsub, zmul, zneg, zb_e0, zb_e1, boo0, boo1, ua_s, ua_n, ua_ua, up_s, u2_s, u2_f, u2_c, u2_u2, Int.natCast_add, Int.zero_add, Int.add_zero, ↓reduceIte, ne_eq, not_true_eq_false, not_false_eq_true, Int.natCast_one, ↓k_X1_flick_0, ↓k_X1_flick_30, ↓k_X1_flick_75, ↓k_X1_flick_117, ↓zg_30_0, ↓zg_5_6, zl_7, zs_7, ↓zn_7, ↓mc_24, ↓mc_30, ↓zg_30_5, zl_34, zs_34, ↓zn_34, ↓zg_30_4, zl_33, zs_33, ↓zn_33, ↓zg_5_10, zl_11, zs_11, ↓zn_11]
end CM
