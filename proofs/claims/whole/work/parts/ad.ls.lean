--DEPS ac.qd
section LS
variable {I : Nat → Nat → Int} {A : Nat → Int → Int} {W : qWt} {c n d i : Nat} {f : Nat → Int32}
/-- the script's numbers -/
def sv (f : Nat → Int32) (i j : Nat) : Int := (f (i + j)).toInt
theorem sv_w (f : Nat → Int32) (i j : Nat) : wI (sv f i j) := ⟨zI_lo _, zI_hi _⟩
theorem lg_self {x : Int64} : lg_cmp x x = zI 0 := by
  unfold lg_cmp
  simp
  rfl
theorem zsc_1 {k : Int32 → qR} (hn : W.2.2.2.1 = n) (hf : W.2.2.2.2.1 = f) (hi : i + 10 ≤ n) (hb5 : n ≤ 5120) : q_ald (zM I A W) (.ref 0) 0 (zI (i : Int) + (1 : Int32)) k = k (zI (sv f i 1)) := by
  have e : zI (i : Int) + (1 : Int32) = zI ((i : Int) + 1) := zadd i 1
  rw [e, z0_l (by omega) (by omega) (by omega) (by omega), hf]
  unfold sv
  rw [zI_of, show ((i : Int) + 1).toNat = i + 1 by omega]
theorem zsc_2 {k : Int32 → qR} (hn : W.2.2.2.1 = n) (hf : W.2.2.2.2.1 = f) (hi : i + 10 ≤ n) (hb5 : n ≤ 5120) : q_ald (zM I A W) (.ref 0) 0 (zI (i : Int) + (2 : Int32)) k = k (zI (sv f i 2)) := by
  have e : zI (i : Int) + (2 : Int32) = zI ((i : Int) + 2) := zadd i 2
  rw [e, z0_l (by omega) (by omega) (by omega) (by omega), hf]
  unfold sv
  rw [zI_of, show ((i : Int) + 2).toNat = i + 2 by omega]
theorem zsc_3 {k : Int32 → qR} (hn : W.2.2.2.1 = n) (hf : W.2.2.2.2.1 = f) (hi : i + 10 ≤ n) (hb5 : n ≤ 5120) : q_ald (zM I A W) (.ref 0) 0 (zI (i : Int) + (3 : Int32)) k = k (zI (sv f i 3)) := by
  have e : zI (i : Int) + (3 : Int32) = zI ((i : Int) + 3) := zadd i 3
  rw [e, z0_l (by omega) (by omega) (by omega) (by omega), hf]
  unfold sv
  rw [zI_of, show ((i : Int) + 3).toNat = i + 3 by omega]
theorem zsc_4 {k : Int32 → qR} (hn : W.2.2.2.1 = n) (hf : W.2.2.2.2.1 = f) (hi : i + 10 ≤ n) (hb5 : n ≤ 5120) : q_ald (zM I A W) (.ref 0) 0 (zI (i : Int) + (4 : Int32)) k = k (zI (sv f i 4)) := by
  have e : zI (i : Int) + (4 : Int32) = zI ((i : Int) + 4) := zadd i 4
  rw [e, z0_l (by omega) (by omega) (by omega) (by omega), hf]
  unfold sv
  rw [zI_of, show ((i : Int) + 4).toNat = i + 4 by omega]
theorem zsc_5 {k : Int32 → qR} (hn : W.2.2.2.1 = n) (hf : W.2.2.2.2.1 = f) (hi : i + 10 ≤ n) (hb5 : n ≤ 5120) : q_ald (zM I A W) (.ref 0) 0 (zI (i : Int) + (5 : Int32)) k = k (zI (sv f i 5)) := by
  have e : zI (i : Int) + (5 : Int32) = zI ((i : Int) + 5) := zadd i 5
  rw [e, z0_l (by omega) (by omega) (by omega) (by omega), hf]
  unfold sv
  rw [zI_of, show ((i : Int) + 5).toNat = i + 5 by omega]
theorem zsc_6 {k : Int32 → qR} (hn : W.2.2.2.1 = n) (hf : W.2.2.2.2.1 = f) (hi : i + 10 ≤ n) (hb5 : n ≤ 5120) : q_ald (zM I A W) (.ref 0) 0 (zI (i : Int) + (6 : Int32)) k = k (zI (sv f i 6)) := by
  have e : zI (i : Int) + (6 : Int32) = zI ((i : Int) + 6) := zadd i 6
  rw [e, z0_l (by omega) (by omega) (by omega) (by omega), hf]
  unfold sv
  rw [zI_of, show ((i : Int) + 6).toNat = i + 6 by omega]
theorem zsc_7 {k : Int32 → qR} (hn : W.2.2.2.1 = n) (hf : W.2.2.2.2.1 = f) (hi : i + 10 ≤ n) (hb5 : n ≤ 5120) : q_ald (zM I A W) (.ref 0) 0 (zI (i : Int) + (7 : Int32)) k = k (zI (sv f i 7)) := by
  have e : zI (i : Int) + (7 : Int32) = zI ((i : Int) + 7) := zadd i 7
  rw [e, z0_l (by omega) (by omega) (by omega) (by omega), hf]
  unfold sv
  rw [zI_of, show ((i : Int) + 7).toNat = i + 7 by omega]
theorem zsc_8 {k : Int32 → qR} (hn : W.2.2.2.1 = n) (hf : W.2.2.2.2.1 = f) (hi : i + 10 ≤ n) (hb5 : n ≤ 5120) : q_ald (zM I A W) (.ref 0) 0 (zI (i : Int) + (8 : Int32)) k = k (zI (sv f i 8)) := by
  have e : zI (i : Int) + (8 : Int32) = zI ((i : Int) + 8) := zadd i 8
  rw [e, z0_l (by omega) (by omega) (by omega) (by omega), hf]
  unfold sv
  rw [zI_of, show ((i : Int) + 8).toNat = i + 8 by omega]
theorem zsc_9 {k : Int32 → qR} (hn : W.2.2.2.1 = n) (hf : W.2.2.2.2.1 = f) (hi : i + 10 ≤ n) (hb5 : n ≤ 5120) : q_ald (zM I A W) (.ref 0) 0 (zI (i : Int) + (9 : Int32)) k = k (zI (sv f i 9)) := by
  have e : zI (i : Int) + (9 : Int32) = zI ((i : Int) + 9) := zadd i 9
  rw [e, z0_l (by omega) (by omega) (by omega) (by omega), hf]
  unfold sv
  rw [zI_of, show ((i : Int) + 9).toNat = i + 9 by omega]
theorem LS_0 {p5 p6 : Value} (hd : 140 ≤ d) (hI : Ivs c n f I A W) (hi : i + 10 ≤ n) (hb5 : n ≤ 5120) : ∃ I2 A2 W2 l5 l6, Ivs (c + 1) n f I2 A2 W2 ∧ q_run qm_L_law_ (q_call q_MT (d + 1)) 40 [.ref 0, .ref 2, .ref 59, .ref 89, .int (zI i), p5, p6] [.int (zI 0)] (zM I A W) = q_run qm_L_law_ (q_call q_MT (d + 1)) 23 [.ref 0, .ref 2, .ref 59, .ref 89, .int (zI ((i : Int) + 10)), l5, l6] [] (zM I2 A2 W2) := by
  have hn := hI.2.1
  have hf := hI.2.2.1
  obtain ⟨I1, A1, W1, I2, A2, W2, b, hK, hn1, hf1, hM, hI2⟩ := DP_feed (d := d + 1) (a1 := sv f i 1) (a2 := sv f i 2) (a3 := sv f i 3) (a4 := sv f i 4) (a5 := sv f i 5) (by omega) hI 
  have ec : zI 0 = (0 : Int32) := rfl
  rw [ec, k_L_law__40_c0]
  refine ⟨I2, A2, W2, p5, p6, hI2, ?_⟩
  simp (implicitDefEqProofs := false) (disch := omega) only [↓rI_s, ↓rV_s, ↓rI_e, ↓rV_e, zc_eq, zc_ne, zc_lt, zc_ge, zc_gt, zc_le, zlt_t, zlt_f, zle_t, zle_f, zeq_t, zeq_f, lz, zadd, zsub, zmul, zneg, zb_e0, zb_e1, boo0, boo1, ua_s, ua_n, ua_ua, up_s, u2_s, u2_f, u2_c, u2_u2, Int.natCast_add, Int.zero_add, Int.add_zero, ↓reduceIte, ne_eq, not_true_eq_false, not_false_eq_true, Int.natCast_one, ↓zsc_1 hn hf hi hb5, ↓zsc_2 hn hf hi hb5, ↓zsc_3 hn hf hi hb5, ↓zsc_4 hn hf hi hb5, ↓zsc_5 hn hf hi hb5, ↓mc_2, ↓cI hK, ↓zsc_1 hn1 hf1 hi hb5, ↓zsc_2 hn1 hf1 hi hb5, ↓zsc_3 hn1 hf1 hi hb5, ↓zsc_4 hn1 hf1 hi hb5, ↓zsc_5 hn1 hf1 hi hb5, ↓mc_59, ↓cI hM, ↓k_L_law__2420]
theorem LS_1 {p5 p6 : Value} (hd : 140 ≤ d) (hI : Ivs c n f I A W) (hi : i + 10 ≤ n) (hb5 : n ≤ 5120) : ∃ I2 A2 W2 l5 l6, Ivs (c + 1) n f I2 A2 W2 ∧ q_run qm_L_law_ (q_call q_MT (d + 1)) 40 [.ref 0, .ref 2, .ref 59, .ref 89, .int (zI i), p5, p6] [.int (zI 1)] (zM I A W) = q_run qm_L_law_ (q_call q_MT (d + 1)) 23 [.ref 0, .ref 2, .ref 59, .ref 89, .int (zI ((i : Int) + 10)), l5, l6] [] (zM I2 A2 W2) := by
  have hn := hI.2.1
  have hf := hI.2.2.1
  obtain ⟨I1, A1, W1, I2, A2, W2, k, b, hK, hn1, hf1, hM, hk, hkb, hI2⟩ := QP_room (d := d) (a1 := sv f i 1) (by omega) hI (sv_w f i 1)
  have ht := m_thrown (d := d + 1) (I := I2) (A := A2) (W := W2) (by omega)
  rw [hk] at ht
  have ec : zI 1 = (1 : Int32) := rfl
  rw [ec, k_L_law__40_c1]
  rcases hkb with ⟨rfl, hb⟩ | rfl | rfl
  · refine ⟨I2, A2, W2, .int (zI 0), .int (zI b), hI2, ?_⟩
    simp (implicitDefEqProofs := false) (disch := omega) only [↓rI_s, ↓rV_s, ↓rI_e, ↓rV_e, zc_eq, zc_ne, zc_lt, zc_ge, zc_gt, zc_le, zlt_t, zlt_f, zle_t, zle_f, zeq_t, zeq_f, lz, zadd, zsub, zmul, zneg, zb_e0, zb_e1, boo0, boo1, ua_s, ua_n, ua_ua, up_s, u2_s, u2_f, u2_c, u2_u2, Int.natCast_add, Int.zero_add, Int.add_zero, ↓reduceIte, ne_eq, not_true_eq_false, not_false_eq_true, Int.natCast_one, ↓zsc_1 hn hf hi hb5, ↓cI hK, ↓zsc_1 hn1 hf1 hi hb5, ↓mc_59, ↓cI hM, ↓cI ht, ↓z89_l, hb, lg_self, ↓k_L_law__326, ↓k_L_law__2420]
  · refine ⟨I2, A2, W2, .int (zI 1), .int (zI b), hI2, ?_⟩
    simp (implicitDefEqProofs := false) (disch := omega) only [↓rI_s, ↓rV_s, ↓rI_e, ↓rV_e, zc_eq, zc_ne, zc_lt, zc_ge, zc_gt, zc_le, zlt_t, zlt_f, zle_t, zle_f, zeq_t, zeq_f, lz, zadd, zsub, zmul, zneg, zb_e0, zb_e1, boo0, boo1, ua_s, ua_n, ua_ua, up_s, u2_s, u2_f, u2_c, u2_u2, Int.natCast_add, Int.zero_add, Int.add_zero, ↓reduceIte, ne_eq, not_true_eq_false, not_false_eq_true, Int.natCast_one, ↓zsc_1 hn hf hi hb5, ↓cI hK, ↓zsc_1 hn1 hf1 hi hb5, ↓mc_59, ↓cI hM, ↓cI ht, ↓k_L_law__326, ↓k_L_law__2420]
  · refine ⟨I2, A2, W2, .int (zI 2), .int (zI b), hI2, ?_⟩
    simp (implicitDefEqProofs := false) (disch := omega) only [↓rI_s, ↓rV_s, ↓rI_e, ↓rV_e, zc_eq, zc_ne, zc_lt, zc_ge, zc_gt, zc_le, zlt_t, zlt_f, zle_t, zle_f, zeq_t, zeq_f, lz, zadd, zsub, zmul, zneg, zb_e0, zb_e1, boo0, boo1, ua_s, ua_n, ua_ua, up_s, u2_s, u2_f, u2_c, u2_u2, Int.natCast_add, Int.zero_add, Int.add_zero, ↓reduceIte, ne_eq, not_true_eq_false, not_false_eq_true, Int.natCast_one, ↓zsc_1 hn hf hi hb5, ↓cI hK, ↓zsc_1 hn1 hf1 hi hb5, ↓mc_59, ↓cI hM, ↓cI ht, ↓k_L_law__326, ↓k_L_law__2420]
theorem LS_2 {p5 p6 : Value} (hd : 140 ≤ d) (hI : Ivs c n f I A W) (hi : i + 10 ≤ n) (hb5 : n ≤ 5120) : ∃ I2 A2 W2 l5 l6, Ivs (c + 1) n f I2 A2 W2 ∧ q_run qm_L_law_ (q_call q_MT (d + 1)) 40 [.ref 0, .ref 2, .ref 59, .ref 89, .int (zI i), p5, p6] [.int (zI 2)] (zM I A W) = q_run qm_L_law_ (q_call q_MT (d + 1)) 23 [.ref 0, .ref 2, .ref 59, .ref 89, .int (zI ((i : Int) + 10)), l5, l6] [] (zM I2 A2 W2) := by
  have hn := hI.2.1
  have hf := hI.2.2.1
  obtain ⟨I1, A1, W1, I2, A2, W2, k, b, hK, hn1, hf1, hM, hk, hkb, hI2⟩ := QP_law (d := d) (a1 := sv f i 1) (by omega) hI (sv_w f i 1)
  have ht := m_thrown (d := d + 1) (I := I2) (A := A2) (W := W2) (by omega)
  rw [hk] at ht
  have ec : zI 2 = (2 : Int32) := rfl
  rw [ec, k_L_law__40_c2]
  rcases hkb with ⟨rfl, hb⟩ | rfl | rfl
  · refine ⟨I2, A2, W2, .int (zI 0), .int (zI b), hI2, ?_⟩
    simp (implicitDefEqProofs := false) (disch := omega) only [↓rI_s, ↓rV_s, ↓rI_e, ↓rV_e, zc_eq, zc_ne, zc_lt, zc_ge, zc_gt, zc_le, zlt_t, zlt_f, zle_t, zle_f, zeq_t, zeq_f, lz, zadd, zsub, zmul, zneg, zb_e0, zb_e1, boo0, boo1, ua_s, ua_n, ua_ua, up_s, u2_s, u2_f, u2_c, u2_u2, Int.natCast_add, Int.zero_add, Int.add_zero, ↓reduceIte, ne_eq, not_true_eq_false, not_false_eq_true, Int.natCast_one, ↓zsc_1 hn hf hi hb5, ↓cI hK, ↓zsc_1 hn1 hf1 hi hb5, ↓mc_59, ↓cI hM, ↓cI ht, ↓z89_l, hb, lg_self, ↓k_L_law__382, ↓k_L_law__2420]
  · refine ⟨I2, A2, W2, .int (zI 1), .int (zI b), hI2, ?_⟩
    simp (implicitDefEqProofs := false) (disch := omega) only [↓rI_s, ↓rV_s, ↓rI_e, ↓rV_e, zc_eq, zc_ne, zc_lt, zc_ge, zc_gt, zc_le, zlt_t, zlt_f, zle_t, zle_f, zeq_t, zeq_f, lz, zadd, zsub, zmul, zneg, zb_e0, zb_e1, boo0, boo1, ua_s, ua_n, ua_ua, up_s, u2_s, u2_f, u2_c, u2_u2, Int.natCast_add, Int.zero_add, Int.add_zero, ↓reduceIte, ne_eq, not_true_eq_false, not_false_eq_true, Int.natCast_one, ↓zsc_1 hn hf hi hb5, ↓cI hK, ↓zsc_1 hn1 hf1 hi hb5, ↓mc_59, ↓cI hM, ↓cI ht, ↓k_L_law__382, ↓k_L_law__2420]
  · refine ⟨I2, A2, W2, .int (zI 2), .int (zI b), hI2, ?_⟩
    simp (implicitDefEqProofs := false) (disch := omega) only [↓rI_s, ↓rV_s, ↓rI_e, ↓rV_e, zc_eq, zc_ne, zc_lt, zc_ge, zc_gt, zc_le, zlt_t, zlt_f, zle_t, zle_f, zeq_t, zeq_f, lz, zadd, zsub, zmul, zneg, zb_e0, zb_e1, boo0, boo1, ua_s, ua_n, ua_ua, up_s, u2_s, u2_f, u2_c, u2_u2, Int.natCast_add, Int.zero_add, Int.add_zero, ↓reduceIte, ne_eq, not_true_eq_false, not_false_eq_true, Int.natCast_one, ↓zsc_1 hn hf hi hb5, ↓cI hK, ↓zsc_1 hn1 hf1 hi hb5, ↓mc_59, ↓cI hM, ↓cI ht, ↓k_L_law__382, ↓k_L_law__2420]
theorem LS_3 {p5 p6 : Value} (hd : 140 ≤ d) (hI : Ivs c n f I A W) (hi : i + 10 ≤ n) (hb5 : n ≤ 5120) : ∃ I2 A2 W2 l5 l6, Ivs (c + 1) n f I2 A2 W2 ∧ q_run qm_L_law_ (q_call q_MT (d + 1)) 40 [.ref 0, .ref 2, .ref 59, .ref 89, .int (zI i), p5, p6] [.int (zI 3)] (zM I A W) = q_run qm_L_law_ (q_call q_MT (d + 1)) 23 [.ref 0, .ref 2, .ref 59, .ref 89, .int (zI ((i : Int) + 10)), l5, l6] [] (zM I2 A2 W2) := by
  have hn := hI.2.1
  have hf := hI.2.2.1
  obtain ⟨I1, A1, W1, I2, A2, W2, k, b, hK, hn1, hf1, hM, hk, hkb, hI2⟩ := QP_play (d := d) (a1 := sv f i 1) (by omega) hI (sv_w f i 1)
  have ht := m_thrown (d := d + 1) (I := I2) (A := A2) (W := W2) (by omega)
  rw [hk] at ht
  have ec : zI 3 = (3 : Int32) := rfl
  rw [ec, k_L_law__40_c3]
  rcases hkb with ⟨rfl, hb⟩ | rfl | rfl
  · refine ⟨I2, A2, W2, .int (zI 0), .int (zI b), hI2, ?_⟩
    simp (implicitDefEqProofs := false) (disch := omega) only [↓rI_s, ↓rV_s, ↓rI_e, ↓rV_e, zc_eq, zc_ne, zc_lt, zc_ge, zc_gt, zc_le, zlt_t, zlt_f, zle_t, zle_f, zeq_t, zeq_f, lz, zadd, zsub, zmul, zneg, zb_e0, zb_e1, boo0, boo1, ua_s, ua_n, ua_ua, up_s, u2_s, u2_f, u2_c, u2_u2, Int.natCast_add, Int.zero_add, Int.add_zero, ↓reduceIte, ne_eq, not_true_eq_false, not_false_eq_true, Int.natCast_one, ↓zsc_1 hn hf hi hb5, ↓cI hK, ↓zsc_1 hn1 hf1 hi hb5, ↓mc_59, ↓cI hM, ↓cI ht, ↓z89_l, hb, lg_self, ↓k_L_law__438, ↓k_L_law__2420]
  · refine ⟨I2, A2, W2, .int (zI 1), .int (zI b), hI2, ?_⟩
    simp (implicitDefEqProofs := false) (disch := omega) only [↓rI_s, ↓rV_s, ↓rI_e, ↓rV_e, zc_eq, zc_ne, zc_lt, zc_ge, zc_gt, zc_le, zlt_t, zlt_f, zle_t, zle_f, zeq_t, zeq_f, lz, zadd, zsub, zmul, zneg, zb_e0, zb_e1, boo0, boo1, ua_s, ua_n, ua_ua, up_s, u2_s, u2_f, u2_c, u2_u2, Int.natCast_add, Int.zero_add, Int.add_zero, ↓reduceIte, ne_eq, not_true_eq_false, not_false_eq_true, Int.natCast_one, ↓zsc_1 hn hf hi hb5, ↓cI hK, ↓zsc_1 hn1 hf1 hi hb5, ↓mc_59, ↓cI hM, ↓cI ht, ↓k_L_law__438, ↓k_L_law__2420]
  · refine ⟨I2, A2, W2, .int (zI 2), .int (zI b), hI2, ?_⟩
    simp (implicitDefEqProofs := false) (disch := omega) only [↓rI_s, ↓rV_s, ↓rI_e, ↓rV_e, zc_eq, zc_ne, zc_lt, zc_ge, zc_gt, zc_le, zlt_t, zlt_f, zle_t, zle_f, zeq_t, zeq_f, lz, zadd, zsub, zmul, zneg, zb_e0, zb_e1, boo0, boo1, ua_s, ua_n, ua_ua, up_s, u2_s, u2_f, u2_c, u2_u2, Int.natCast_add, Int.zero_add, Int.add_zero, ↓reduceIte, ne_eq, not_true_eq_false, not_false_eq_true, Int.natCast_one, ↓zsc_1 hn hf hi hb5, ↓cI hK, ↓zsc_1 hn1 hf1 hi hb5, ↓mc_59, ↓cI hM, ↓cI ht, ↓k_L_law__438, ↓k_L_law__2420]
theorem LS_4 {p5 p6 : Value} (hd : 140 ≤ d) (hI : Ivs c n f I A W) (hi : i + 10 ≤ n) (hb5 : n ≤ 5120) : ∃ I2 A2 W2 l5 l6, Ivs (c + 1) n f I2 A2 W2 ∧ q_run qm_L_law_ (q_call q_MT (d + 1)) 40 [.ref 0, .ref 2, .ref 59, .ref 89, .int (zI i), p5, p6] [.int (zI 4)] (zM I A W) = q_run qm_L_law_ (q_call q_MT (d + 1)) 23 [.ref 0, .ref 2, .ref 59, .ref 89, .int (zI ((i : Int) + 10)), l5, l6] [] (zM I2 A2 W2) := by
  have hn := hI.2.1
  have hf := hI.2.2.1
  obtain ⟨I1, A1, W1, I2, A2, W2, k, b, hK, hn1, hf1, hM, hk, hkb, hI2⟩ := QP_book (d := d) (a1 := sv f i 1) (by omega) hI (sv_w f i 1)
  have ht := m_thrown (d := d + 1) (I := I2) (A := A2) (W := W2) (by omega)
  rw [hk] at ht
  have ec : zI 4 = (4 : Int32) := rfl
  rw [ec, k_L_law__40_c4]
  rcases hkb with ⟨rfl, hb⟩ | rfl | rfl
  · refine ⟨I2, A2, W2, .int (zI 0), .int (zI b), hI2, ?_⟩
    simp (implicitDefEqProofs := false) (disch := omega) only [↓rI_s, ↓rV_s, ↓rI_e, ↓rV_e, zc_eq, zc_ne, zc_lt, zc_ge, zc_gt, zc_le, zlt_t, zlt_f, zle_t, zle_f, zeq_t, zeq_f, lz, zadd, zsub, zmul, zneg, zb_e0, zb_e1, boo0, boo1, ua_s, ua_n, ua_ua, up_s, u2_s, u2_f, u2_c, u2_u2, Int.natCast_add, Int.zero_add, Int.add_zero, ↓reduceIte, ne_eq, not_true_eq_false, not_false_eq_true, Int.natCast_one, ↓zsc_1 hn hf hi hb5, ↓cI hK, ↓zsc_1 hn1 hf1 hi hb5, ↓mc_59, ↓cI hM, ↓cI ht, ↓z89_l, hb, lg_self, ↓k_L_law__494, ↓k_L_law__2420]
  · refine ⟨I2, A2, W2, .int (zI 1), .int (zI b), hI2, ?_⟩
    simp (implicitDefEqProofs := false) (disch := omega) only [↓rI_s, ↓rV_s, ↓rI_e, ↓rV_e, zc_eq, zc_ne, zc_lt, zc_ge, zc_gt, zc_le, zlt_t, zlt_f, zle_t, zle_f, zeq_t, zeq_f, lz, zadd, zsub, zmul, zneg, zb_e0, zb_e1, boo0, boo1, ua_s, ua_n, ua_ua, up_s, u2_s, u2_f, u2_c, u2_u2, Int.natCast_add, Int.zero_add, Int.add_zero, ↓reduceIte, ne_eq, not_true_eq_false, not_false_eq_true, Int.natCast_one, ↓zsc_1 hn hf hi hb5, ↓cI hK, ↓zsc_1 hn1 hf1 hi hb5, ↓mc_59, ↓cI hM, ↓cI ht, ↓k_L_law__494, ↓k_L_law__2420]
  · refine ⟨I2, A2, W2, .int (zI 2), .int (zI b), hI2, ?_⟩
    simp (implicitDefEqProofs := false) (disch := omega) only [↓rI_s, ↓rV_s, ↓rI_e, ↓rV_e, zc_eq, zc_ne, zc_lt, zc_ge, zc_gt, zc_le, zlt_t, zlt_f, zle_t, zle_f, zeq_t, zeq_f, lz, zadd, zsub, zmul, zneg, zb_e0, zb_e1, boo0, boo1, ua_s, ua_n, ua_ua, up_s, u2_s, u2_f, u2_c, u2_u2, Int.natCast_add, Int.zero_add, Int.add_zero, ↓reduceIte, ne_eq, not_true_eq_false, not_false_eq_true, Int.natCast_one, ↓zsc_1 hn hf hi hb5, ↓cI hK, ↓zsc_1 hn1 hf1 hi hb5, ↓mc_59, ↓cI hM, ↓cI ht, ↓k_L_law__494, ↓k_L_law__2420]
theorem LS_5 {p5 p6 : Value} (hd : 140 ≤ d) (hI : Ivs c n f I A W) (hi : i + 10 ≤ n) (hb5 : n ≤ 5120) : ∃ I2 A2 W2 l5 l6, Ivs (c + 1) n f I2 A2 W2 ∧ q_run qm_L_law_ (q_call q_MT (d + 1)) 40 [.ref 0, .ref 2, .ref 59, .ref 89, .int (zI i), p5, p6] [.int (zI 5)] (zM I A W) = q_run qm_L_law_ (q_call q_MT (d + 1)) 23 [.ref 0, .ref 2, .ref 59, .ref 89, .int (zI ((i : Int) + 10)), l5, l6] [] (zM I2 A2 W2) := by
  have hn := hI.2.1
  have hf := hI.2.2.1
  obtain ⟨I1, A1, W1, I2, A2, W2, b, hK, hn1, hf1, hM, hI2⟩ := DP_fault (d := d + 1)  (by omega) hI 
  have ec : zI 5 = (5 : Int32) := rfl
  rw [ec, k_L_law__40_c5]
  refine ⟨I2, A2, W2, p5, p6, hI2, ?_⟩
  simp (implicitDefEqProofs := false) (disch := omega) only [↓rI_s, ↓rV_s, ↓rI_e, ↓rV_e, zc_eq, zc_ne, zc_lt, zc_ge, zc_gt, zc_le, zlt_t, zlt_f, zle_t, zle_f, zeq_t, zeq_f, lz, zadd, zsub, zmul, zneg, zb_e0, zb_e1, boo0, boo1, ua_s, ua_n, ua_ua, up_s, u2_s, u2_f, u2_c, u2_u2, Int.natCast_add, Int.zero_add, Int.add_zero, ↓reduceIte, ne_eq, not_true_eq_false, not_false_eq_true, Int.natCast_one, ↓mc_2, ↓cI hK, ↓mc_59, ↓cI hM, ↓k_L_law__2420]
theorem LS_6 {p5 p6 : Value} (hd : 140 ≤ d) (hI : Ivs c n f I A W) (hi : i + 10 ≤ n) (hb5 : n ≤ 5120) : ∃ I2 A2 W2 l5 l6, Ivs (c + 1) n f I2 A2 W2 ∧ q_run qm_L_law_ (q_call q_MT (d + 1)) 40 [.ref 0, .ref 2, .ref 59, .ref 89, .int (zI i), p5, p6] [.int (zI 6)] (zM I A W) = q_run qm_L_law_ (q_call q_MT (d + 1)) 23 [.ref 0, .ref 2, .ref 59, .ref 89, .int (zI ((i : Int) + 10)), l5, l6] [] (zM I2 A2 W2) := by
  have hn := hI.2.1
  have hf := hI.2.2.1
  obtain ⟨I1, A1, W1, I2, A2, W2, b, hK, hn1, hf1, hM, hI2⟩ := DP_undo (d := d + 1)  (by omega) hI 
  have ec : zI 6 = (6 : Int32) := rfl
  rw [ec, k_L_law__40_c6]
  refine ⟨I2, A2, W2, p5, p6, hI2, ?_⟩
  simp (implicitDefEqProofs := false) (disch := omega) only [↓rI_s, ↓rV_s, ↓rI_e, ↓rV_e, zc_eq, zc_ne, zc_lt, zc_ge, zc_gt, zc_le, zlt_t, zlt_f, zle_t, zle_f, zeq_t, zeq_f, lz, zadd, zsub, zmul, zneg, zb_e0, zb_e1, boo0, boo1, ua_s, ua_n, ua_ua, up_s, u2_s, u2_f, u2_c, u2_u2, Int.natCast_add, Int.zero_add, Int.add_zero, ↓reduceIte, ne_eq, not_true_eq_false, not_false_eq_true, Int.natCast_one, ↓mc_2, ↓cI hK, ↓mc_59, ↓cI hM, ↓k_L_law__2420]
theorem LS_7 {p5 p6 : Value} (hd : 140 ≤ d) (hI : Ivs c n f I A W) (hi : i + 10 ≤ n) (hb5 : n ≤ 5120) : ∃ I2 A2 W2 l5 l6, Ivs (c + 1) n f I2 A2 W2 ∧ q_run qm_L_law_ (q_call q_MT (d + 1)) 40 [.ref 0, .ref 2, .ref 59, .ref 89, .int (zI i), p5, p6] [.int (zI 7)] (zM I A W) = q_run qm_L_law_ (q_call q_MT (d + 1)) 23 [.ref 0, .ref 2, .ref 59, .ref 89, .int (zI ((i : Int) + 10)), l5, l6] [] (zM I2 A2 W2) := by
  have hn := hI.2.1
  have hf := hI.2.2.1
  obtain ⟨I1, A1, W1, I2, A2, W2, k, b, hK, hn1, hf1, hM, hk, hkb, hI2⟩ := QP_told (d := d) (a1 := sv f i 1) (by omega) hI (sv_w f i 1)
  have ht := m_thrown (d := d + 1) (I := I2) (A := A2) (W := W2) (by omega)
  rw [hk] at ht
  have ec : zI 7 = (7 : Int32) := rfl
  rw [ec, k_L_law__40_c7]
  rcases hkb with ⟨rfl, hb⟩ | rfl | rfl
  · refine ⟨I2, A2, W2, .int (zI 0), .int (zI b), hI2, ?_⟩
    simp (implicitDefEqProofs := false) (disch := omega) only [↓rI_s, ↓rV_s, ↓rI_e, ↓rV_e, zc_eq, zc_ne, zc_lt, zc_ge, zc_gt, zc_le, zlt_t, zlt_f, zle_t, zle_f, zeq_t, zeq_f, lz, zadd, zsub, zmul, zneg, zb_e0, zb_e1, boo0, boo1, ua_s, ua_n, ua_ua, up_s, u2_s, u2_f, u2_c, u2_u2, Int.natCast_add, Int.zero_add, Int.add_zero, ↓reduceIte, ne_eq, not_true_eq_false, not_false_eq_true, Int.natCast_one, ↓zsc_1 hn hf hi hb5, ↓cI hK, ↓zsc_1 hn1 hf1 hi hb5, ↓mc_59, ↓cI hM, ↓cI ht, ↓z89_l, hb, lg_self, ↓k_L_law__576, ↓k_L_law__2420]
  · refine ⟨I2, A2, W2, .int (zI 1), .int (zI b), hI2, ?_⟩
    simp (implicitDefEqProofs := false) (disch := omega) only [↓rI_s, ↓rV_s, ↓rI_e, ↓rV_e, zc_eq, zc_ne, zc_lt, zc_ge, zc_gt, zc_le, zlt_t, zlt_f, zle_t, zle_f, zeq_t, zeq_f, lz, zadd, zsub, zmul, zneg, zb_e0, zb_e1, boo0, boo1, ua_s, ua_n, ua_ua, up_s, u2_s, u2_f, u2_c, u2_u2, Int.natCast_add, Int.zero_add, Int.add_zero, ↓reduceIte, ne_eq, not_true_eq_false, not_false_eq_true, Int.natCast_one, ↓zsc_1 hn hf hi hb5, ↓cI hK, ↓zsc_1 hn1 hf1 hi hb5, ↓mc_59, ↓cI hM, ↓cI ht, ↓k_L_law__576, ↓k_L_law__2420]
  · refine ⟨I2, A2, W2, .int (zI 2), .int (zI b), hI2, ?_⟩
    simp (implicitDefEqProofs := false) (disch := omega) only [↓rI_s, ↓rV_s, ↓rI_e, ↓rV_e, zc_eq, zc_ne, zc_lt, zc_ge, zc_gt, zc_le, zlt_t, zlt_f, zle_t, zle_f, zeq_t, zeq_f, lz, zadd, zsub, zmul, zneg, zb_e0, zb_e1, boo0, boo1, ua_s, ua_n, ua_ua, up_s, u2_s, u2_f, u2_c, u2_u2, Int.natCast_add, Int.zero_add, Int.add_zero, ↓reduceIte, ne_eq, not_true_eq_false, not_false_eq_true, Int.natCast_one, ↓zsc_1 hn hf hi hb5, ↓cI hK, ↓zsc_1 hn1 hf1 hi hb5, ↓mc_59, ↓cI hM, ↓cI ht, ↓k_L_law__576, ↓k_L_law__2420]
theorem LS_8 {p5 p6 : Value} (hd : 140 ≤ d) (hI : Ivs c n f I A W) (hi : i + 10 ≤ n) (hb5 : n ≤ 5120) : ∃ I2 A2 W2 l5 l6, Ivs (c + 1) n f I2 A2 W2 ∧ q_run qm_L_law_ (q_call q_MT (d + 1)) 40 [.ref 0, .ref 2, .ref 59, .ref 89, .int (zI i), p5, p6] [.int (zI 8)] (zM I A W) = q_run qm_L_law_ (q_call q_MT (d + 1)) 23 [.ref 0, .ref 2, .ref 59, .ref 89, .int (zI ((i : Int) + 10)), l5, l6] [] (zM I2 A2 W2) := by
  have hn := hI.2.1
  have hf := hI.2.2.1
  obtain ⟨I1, A1, W1, I2, A2, W2, k, b, hK, hn1, hf1, hM, hk, hkb, hI2⟩ := QP_house (d := d) (a1 := sv f i 1) (a2 := sv f i 2) (by omega) hI (sv_w f i 1) (sv_w f i 2)
  have ht := m_thrown (d := d + 1) (I := I2) (A := A2) (W := W2) (by omega)
  rw [hk] at ht
  have ec : zI 8 = (8 : Int32) := rfl
  rw [ec, k_L_law__40_c8]
  rcases hkb with ⟨rfl, hb⟩ | rfl | rfl
  · refine ⟨I2, A2, W2, .int (zI 0), .int (zI b), hI2, ?_⟩
    simp (implicitDefEqProofs := false) (disch := omega) only [↓rI_s, ↓rV_s, ↓rI_e, ↓rV_e, zc_eq, zc_ne, zc_lt, zc_ge, zc_gt, zc_le, zlt_t, zlt_f, zle_t, zle_f, zeq_t, zeq_f, lz, zadd, zsub, zmul, zneg, zb_e0, zb_e1, boo0, boo1, ua_s, ua_n, ua_ua, up_s, u2_s, u2_f, u2_c, u2_u2, Int.natCast_add, Int.zero_add, Int.add_zero, ↓reduceIte, ne_eq, not_true_eq_false, not_false_eq_true, Int.natCast_one, ↓zsc_1 hn hf hi hb5, ↓zsc_2 hn hf hi hb5, ↓cI hK, ↓zsc_1 hn1 hf1 hi hb5, ↓zsc_2 hn1 hf1 hi hb5, ↓mc_59, ↓cI hM, ↓cI ht, ↓z89_l, hb, lg_self, ↓k_L_law__644, ↓k_L_law__2420]
  · refine ⟨I2, A2, W2, .int (zI 1), .int (zI b), hI2, ?_⟩
    simp (implicitDefEqProofs := false) (disch := omega) only [↓rI_s, ↓rV_s, ↓rI_e, ↓rV_e, zc_eq, zc_ne, zc_lt, zc_ge, zc_gt, zc_le, zlt_t, zlt_f, zle_t, zle_f, zeq_t, zeq_f, lz, zadd, zsub, zmul, zneg, zb_e0, zb_e1, boo0, boo1, ua_s, ua_n, ua_ua, up_s, u2_s, u2_f, u2_c, u2_u2, Int.natCast_add, Int.zero_add, Int.add_zero, ↓reduceIte, ne_eq, not_true_eq_false, not_false_eq_true, Int.natCast_one, ↓zsc_1 hn hf hi hb5, ↓zsc_2 hn hf hi hb5, ↓cI hK, ↓zsc_1 hn1 hf1 hi hb5, ↓zsc_2 hn1 hf1 hi hb5, ↓mc_59, ↓cI hM, ↓cI ht, ↓k_L_law__644, ↓k_L_law__2420]
  · refine ⟨I2, A2, W2, .int (zI 2), .int (zI b), hI2, ?_⟩
    simp (implicitDefEqProofs := false) (disch := omega) only [↓rI_s, ↓rV_s, ↓rI_e, ↓rV_e, zc_eq, zc_ne, zc_lt, zc_ge, zc_gt, zc_le, zlt_t, zlt_f, zle_t, zle_f, zeq_t, zeq_f, lz, zadd, zsub, zmul, zneg, zb_e0, zb_e1, boo0, boo1, ua_s, ua_n, ua_ua, up_s, u2_s, u2_f, u2_c, u2_u2, Int.natCast_add, Int.zero_add, Int.add_zero, ↓reduceIte, ne_eq, not_true_eq_false, not_false_eq_true, Int.natCast_one, ↓zsc_1 hn hf hi hb5, ↓zsc_2 hn hf hi hb5, ↓cI hK, ↓zsc_1 hn1 hf1 hi hb5, ↓zsc_2 hn1 hf1 hi hb5, ↓mc_59, ↓cI hM, ↓cI ht, ↓k_L_law__644, ↓k_L_law__2420]
theorem LS_9 {p5 p6 : Value} (hd : 140 ≤ d) (hI : Ivs c n f I A W) (hi : i + 10 ≤ n) (hb5 : n ≤ 5120) : ∃ I2 A2 W2 l5 l6, Ivs (c + 1) n f I2 A2 W2 ∧ q_run qm_L_law_ (q_call q_MT (d + 1)) 40 [.ref 0, .ref 2, .ref 59, .ref 89, .int (zI i), p5, p6] [.int (zI 9)] (zM I A W) = q_run qm_L_law_ (q_call q_MT (d + 1)) 23 [.ref 0, .ref 2, .ref 59, .ref 89, .int (zI ((i : Int) + 10)), l5, l6] [] (zM I2 A2 W2) := by
  have hn := hI.2.1
  have hf := hI.2.2.1
  obtain ⟨I1, A1, W1, I2, A2, W2, k, b, hK, hn1, hf1, hM, hk, hkb, hI2⟩ := QP_wink (d := d) (a1 := sv f i 1) (a2 := sv f i 2) (by omega) hI (sv_w f i 1) (sv_w f i 2)
  have ht := m_thrown (d := d + 1) (I := I2) (A := A2) (W := W2) (by omega)
  rw [hk] at ht
  have ec : zI 9 = (9 : Int32) := rfl
  rw [ec, k_L_law__40_c9]
  rcases hkb with ⟨rfl, hb⟩ | rfl | rfl
  · refine ⟨I2, A2, W2, .int (zI 0), .int (zI b), hI2, ?_⟩
    simp (implicitDefEqProofs := false) (disch := omega) only [↓rI_s, ↓rV_s, ↓rI_e, ↓rV_e, zc_eq, zc_ne, zc_lt, zc_ge, zc_gt, zc_le, zlt_t, zlt_f, zle_t, zle_f, zeq_t, zeq_f, lz, zadd, zsub, zmul, zneg, zb_e0, zb_e1, boo0, boo1, ua_s, ua_n, ua_ua, up_s, u2_s, u2_f, u2_c, u2_u2, Int.natCast_add, Int.zero_add, Int.add_zero, ↓reduceIte, ne_eq, not_true_eq_false, not_false_eq_true, Int.natCast_one, ↓zsc_1 hn hf hi hb5, ↓zsc_2 hn hf hi hb5, ↓cI hK, ↓zsc_1 hn1 hf1 hi hb5, ↓zsc_2 hn1 hf1 hi hb5, ↓mc_59, ↓cI hM, ↓cI ht, ↓z89_l, hb, lg_self, ↓k_L_law__712, ↓k_L_law__2420]
  · refine ⟨I2, A2, W2, .int (zI 1), .int (zI b), hI2, ?_⟩
    simp (implicitDefEqProofs := false) (disch := omega) only [↓rI_s, ↓rV_s, ↓rI_e, ↓rV_e, zc_eq, zc_ne, zc_lt, zc_ge, zc_gt, zc_le, zlt_t, zlt_f, zle_t, zle_f, zeq_t, zeq_f, lz, zadd, zsub, zmul, zneg, zb_e0, zb_e1, boo0, boo1, ua_s, ua_n, ua_ua, up_s, u2_s, u2_f, u2_c, u2_u2, Int.natCast_add, Int.zero_add, Int.add_zero, ↓reduceIte, ne_eq, not_true_eq_false, not_false_eq_true, Int.natCast_one, ↓zsc_1 hn hf hi hb5, ↓zsc_2 hn hf hi hb5, ↓cI hK, ↓zsc_1 hn1 hf1 hi hb5, ↓zsc_2 hn1 hf1 hi hb5, ↓mc_59, ↓cI hM, ↓cI ht, ↓k_L_law__712, ↓k_L_law__2420]
  · refine ⟨I2, A2, W2, .int (zI 2), .int (zI b), hI2, ?_⟩
    simp (implicitDefEqProofs := false) (disch := omega) only [↓rI_s, ↓rV_s, ↓rI_e, ↓rV_e, zc_eq, zc_ne, zc_lt, zc_ge, zc_gt, zc_le, zlt_t, zlt_f, zle_t, zle_f, zeq_t, zeq_f, lz, zadd, zsub, zmul, zneg, zb_e0, zb_e1, boo0, boo1, ua_s, ua_n, ua_ua, up_s, u2_s, u2_f, u2_c, u2_u2, Int.natCast_add, Int.zero_add, Int.add_zero, ↓reduceIte, ne_eq, not_true_eq_false, not_false_eq_true, Int.natCast_one, ↓zsc_1 hn hf hi hb5, ↓zsc_2 hn hf hi hb5, ↓cI hK, ↓zsc_1 hn1 hf1 hi hb5, ↓zsc_2 hn1 hf1 hi hb5, ↓mc_59, ↓cI hM, ↓cI ht, ↓k_L_law__712, ↓k_L_law__2420]
theorem LS_10 {p5 p6 : Value} (hd : 140 ≤ d) (hI : Ivs c n f I A W) (hi : i + 10 ≤ n) (hb5 : n ≤ 5120) : ∃ I2 A2 W2 l5 l6, Ivs (c + 1) n f I2 A2 W2 ∧ q_run qm_L_law_ (q_call q_MT (d + 1)) 40 [.ref 0, .ref 2, .ref 59, .ref 89, .int (zI i), p5, p6] [.int (zI 10)] (zM I A W) = q_run qm_L_law_ (q_call q_MT (d + 1)) 23 [.ref 0, .ref 2, .ref 59, .ref 89, .int (zI ((i : Int) + 10)), l5, l6] [] (zM I2 A2 W2) := by
  have hn := hI.2.1
  have hf := hI.2.2.1
  obtain ⟨I1, A1, W1, I2, A2, W2, k, b, hK, hn1, hf1, hM, hk, hkb, hI2⟩ := QP_cup (d := d) (a1 := sv f i 1) (a2 := sv f i 2) (by omega) hI (sv_w f i 1) (sv_w f i 2)
  have ht := m_thrown (d := d + 1) (I := I2) (A := A2) (W := W2) (by omega)
  rw [hk] at ht
  have ec : zI 10 = (10 : Int32) := rfl
  rw [ec, k_L_law__40_c10]
  rcases hkb with ⟨rfl, hb⟩ | rfl | rfl
  · refine ⟨I2, A2, W2, .int (zI 0), .int (zI b), hI2, ?_⟩
    simp (implicitDefEqProofs := false) (disch := omega) only [↓rI_s, ↓rV_s, ↓rI_e, ↓rV_e, zc_eq, zc_ne, zc_lt, zc_ge, zc_gt, zc_le, zlt_t, zlt_f, zle_t, zle_f, zeq_t, zeq_f, lz, zadd, zsub, zmul, zneg, zb_e0, zb_e1, boo0, boo1, ua_s, ua_n, ua_ua, up_s, u2_s, u2_f, u2_c, u2_u2, Int.natCast_add, Int.zero_add, Int.add_zero, ↓reduceIte, ne_eq, not_true_eq_false, not_false_eq_true, Int.natCast_one, ↓zsc_1 hn hf hi hb5, ↓zsc_2 hn hf hi hb5, ↓cI hK, ↓zsc_1 hn1 hf1 hi hb5, ↓zsc_2 hn1 hf1 hi hb5, ↓mc_59, ↓cI hM, ↓cI ht, ↓z89_l, hb, lg_self, ↓k_L_law__780, ↓k_L_law__2420]
  · refine ⟨I2, A2, W2, .int (zI 1), .int (zI b), hI2, ?_⟩
    simp (implicitDefEqProofs := false) (disch := omega) only [↓rI_s, ↓rV_s, ↓rI_e, ↓rV_e, zc_eq, zc_ne, zc_lt, zc_ge, zc_gt, zc_le, zlt_t, zlt_f, zle_t, zle_f, zeq_t, zeq_f, lz, zadd, zsub, zmul, zneg, zb_e0, zb_e1, boo0, boo1, ua_s, ua_n, ua_ua, up_s, u2_s, u2_f, u2_c, u2_u2, Int.natCast_add, Int.zero_add, Int.add_zero, ↓reduceIte, ne_eq, not_true_eq_false, not_false_eq_true, Int.natCast_one, ↓zsc_1 hn hf hi hb5, ↓zsc_2 hn hf hi hb5, ↓cI hK, ↓zsc_1 hn1 hf1 hi hb5, ↓zsc_2 hn1 hf1 hi hb5, ↓mc_59, ↓cI hM, ↓cI ht, ↓k_L_law__780, ↓k_L_law__2420]
  · refine ⟨I2, A2, W2, .int (zI 2), .int (zI b), hI2, ?_⟩
    simp (implicitDefEqProofs := false) (disch := omega) only [↓rI_s, ↓rV_s, ↓rI_e, ↓rV_e, zc_eq, zc_ne, zc_lt, zc_ge, zc_gt, zc_le, zlt_t, zlt_f, zle_t, zle_f, zeq_t, zeq_f, lz, zadd, zsub, zmul, zneg, zb_e0, zb_e1, boo0, boo1, ua_s, ua_n, ua_ua, up_s, u2_s, u2_f, u2_c, u2_u2, Int.natCast_add, Int.zero_add, Int.add_zero, ↓reduceIte, ne_eq, not_true_eq_false, not_false_eq_true, Int.natCast_one, ↓zsc_1 hn hf hi hb5, ↓zsc_2 hn hf hi hb5, ↓cI hK, ↓zsc_1 hn1 hf1 hi hb5, ↓zsc_2 hn1 hf1 hi hb5, ↓mc_59, ↓cI hM, ↓cI ht, ↓k_L_law__780, ↓k_L_law__2420]
theorem LS_11 {p5 p6 : Value} (hd : 140 ≤ d) (hI : Ivs c n f I A W) (hi : i + 10 ≤ n) (hb5 : n ≤ 5120) : ∃ I2 A2 W2 l5 l6, Ivs (c + 1) n f I2 A2 W2 ∧ q_run qm_L_law_ (q_call q_MT (d + 1)) 40 [.ref 0, .ref 2, .ref 59, .ref 89, .int (zI i), p5, p6] [.int (zI 11)] (zM I A W) = q_run qm_L_law_ (q_call q_MT (d + 1)) 23 [.ref 0, .ref 2, .ref 59, .ref 89, .int (zI ((i : Int) + 10)), l5, l6] [] (zM I2 A2 W2) := by
  have hn := hI.2.1
  have hf := hI.2.2.1
  obtain ⟨I1, A1, W1, I2, A2, W2, k, b, hK, hn1, hf1, hM, hk, hkb, hI2⟩ := QP_cell (d := d) (a1 := sv f i 1) (a2 := sv f i 2) (by omega) hI (sv_w f i 1) (sv_w f i 2)
  have ht := m_thrown (d := d + 1) (I := I2) (A := A2) (W := W2) (by omega)
  rw [hk] at ht
  have ec : zI 11 = (11 : Int32) := rfl
  rw [ec, k_L_law__40_c11]
  rcases hkb with ⟨rfl, hb⟩ | rfl | rfl
  · refine ⟨I2, A2, W2, .int (zI 0), .int (zI b), hI2, ?_⟩
    simp (implicitDefEqProofs := false) (disch := omega) only [↓rI_s, ↓rV_s, ↓rI_e, ↓rV_e, zc_eq, zc_ne, zc_lt, zc_ge, zc_gt, zc_le, zlt_t, zlt_f, zle_t, zle_f, zeq_t, zeq_f, lz, zadd, zsub, zmul, zneg, zb_e0, zb_e1, boo0, boo1, ua_s, ua_n, ua_ua, up_s, u2_s, u2_f, u2_c, u2_u2, Int.natCast_add, Int.zero_add, Int.add_zero, ↓reduceIte, ne_eq, not_true_eq_false, not_false_eq_true, Int.natCast_one, ↓zsc_1 hn hf hi hb5, ↓zsc_2 hn hf hi hb5, ↓cI hK, ↓zsc_1 hn1 hf1 hi hb5, ↓zsc_2 hn1 hf1 hi hb5, ↓mc_59, ↓cI hM, ↓cI ht, ↓z89_l, hb, lg_self, ↓k_L_law__848, ↓k_L_law__2420]
  · refine ⟨I2, A2, W2, .int (zI 1), .int (zI b), hI2, ?_⟩
    simp (implicitDefEqProofs := false) (disch := omega) only [↓rI_s, ↓rV_s, ↓rI_e, ↓rV_e, zc_eq, zc_ne, zc_lt, zc_ge, zc_gt, zc_le, zlt_t, zlt_f, zle_t, zle_f, zeq_t, zeq_f, lz, zadd, zsub, zmul, zneg, zb_e0, zb_e1, boo0, boo1, ua_s, ua_n, ua_ua, up_s, u2_s, u2_f, u2_c, u2_u2, Int.natCast_add, Int.zero_add, Int.add_zero, ↓reduceIte, ne_eq, not_true_eq_false, not_false_eq_true, Int.natCast_one, ↓zsc_1 hn hf hi hb5, ↓zsc_2 hn hf hi hb5, ↓cI hK, ↓zsc_1 hn1 hf1 hi hb5, ↓zsc_2 hn1 hf1 hi hb5, ↓mc_59, ↓cI hM, ↓cI ht, ↓k_L_law__848, ↓k_L_law__2420]
  · refine ⟨I2, A2, W2, .int (zI 2), .int (zI b), hI2, ?_⟩
    simp (implicitDefEqProofs := false) (disch := omega) only [↓rI_s, ↓rV_s, ↓rI_e, ↓rV_e, zc_eq, zc_ne, zc_lt, zc_ge, zc_gt, zc_le, zlt_t, zlt_f, zle_t, zle_f, zeq_t, zeq_f, lz, zadd, zsub, zmul, zneg, zb_e0, zb_e1, boo0, boo1, ua_s, ua_n, ua_ua, up_s, u2_s, u2_f, u2_c, u2_u2, Int.natCast_add, Int.zero_add, Int.add_zero, ↓reduceIte, ne_eq, not_true_eq_false, not_false_eq_true, Int.natCast_one, ↓zsc_1 hn hf hi hb5, ↓zsc_2 hn hf hi hb5, ↓cI hK, ↓zsc_1 hn1 hf1 hi hb5, ↓zsc_2 hn1 hf1 hi hb5, ↓mc_59, ↓cI hM, ↓cI ht, ↓k_L_law__848, ↓k_L_law__2420]
theorem LS_12 {p5 p6 : Value} (hd : 140 ≤ d) (hI : Ivs c n f I A W) (hi : i + 10 ≤ n) (hb5 : n ≤ 5120) : ∃ I2 A2 W2 l5 l6, Ivs (c + 1) n f I2 A2 W2 ∧ q_run qm_L_law_ (q_call q_MT (d + 1)) 40 [.ref 0, .ref 2, .ref 59, .ref 89, .int (zI i), p5, p6] [.int (zI 12)] (zM I A W) = q_run qm_L_law_ (q_call q_MT (d + 1)) 23 [.ref 0, .ref 2, .ref 59, .ref 89, .int (zI ((i : Int) + 10)), l5, l6] [] (zM I2 A2 W2) := by
  have hn := hI.2.1
  have hf := hI.2.2.1
  obtain ⟨I1, A1, W1, I2, A2, W2, k, b, hK, hn1, hf1, hM, hk, hkb, hI2⟩ := QP_flies (d := d) (a1 := sv f i 1) (a2 := sv f i 2) (by omega) hI (sv_w f i 1) (sv_w f i 2)
  have ht := m_thrown (d := d + 1) (I := I2) (A := A2) (W := W2) (by omega)
  rw [hk] at ht
  have ec : zI 12 = (12 : Int32) := rfl
  rw [ec, k_L_law__40_c12]
  rcases hkb with ⟨rfl, hb⟩ | rfl | rfl
  · refine ⟨I2, A2, W2, .int (zI 0), .int (zI b), hI2, ?_⟩
    simp (implicitDefEqProofs := false) (disch := omega) only [↓rI_s, ↓rV_s, ↓rI_e, ↓rV_e, zc_eq, zc_ne, zc_lt, zc_ge, zc_gt, zc_le, zlt_t, zlt_f, zle_t, zle_f, zeq_t, zeq_f, lz, zadd, zsub, zmul, zneg, zb_e0, zb_e1, boo0, boo1, ua_s, ua_n, ua_ua, up_s, u2_s, u2_f, u2_c, u2_u2, Int.natCast_add, Int.zero_add, Int.add_zero, ↓reduceIte, ne_eq, not_true_eq_false, not_false_eq_true, Int.natCast_one, ↓zsc_1 hn hf hi hb5, ↓zsc_2 hn hf hi hb5, ↓cI hK, ↓zsc_1 hn1 hf1 hi hb5, ↓zsc_2 hn1 hf1 hi hb5, ↓mc_59, ↓cI hM, ↓cI ht, ↓z89_l, hb, lg_self, ↓k_L_law__916, ↓k_L_law__2420]
  · refine ⟨I2, A2, W2, .int (zI 1), .int (zI b), hI2, ?_⟩
    simp (implicitDefEqProofs := false) (disch := omega) only [↓rI_s, ↓rV_s, ↓rI_e, ↓rV_e, zc_eq, zc_ne, zc_lt, zc_ge, zc_gt, zc_le, zlt_t, zlt_f, zle_t, zle_f, zeq_t, zeq_f, lz, zadd, zsub, zmul, zneg, zb_e0, zb_e1, boo0, boo1, ua_s, ua_n, ua_ua, up_s, u2_s, u2_f, u2_c, u2_u2, Int.natCast_add, Int.zero_add, Int.add_zero, ↓reduceIte, ne_eq, not_true_eq_false, not_false_eq_true, Int.natCast_one, ↓zsc_1 hn hf hi hb5, ↓zsc_2 hn hf hi hb5, ↓cI hK, ↓zsc_1 hn1 hf1 hi hb5, ↓zsc_2 hn1 hf1 hi hb5, ↓mc_59, ↓cI hM, ↓cI ht, ↓k_L_law__916, ↓k_L_law__2420]
  · refine ⟨I2, A2, W2, .int (zI 2), .int (zI b), hI2, ?_⟩
    simp (implicitDefEqProofs := false) (disch := omega) only [↓rI_s, ↓rV_s, ↓rI_e, ↓rV_e, zc_eq, zc_ne, zc_lt, zc_ge, zc_gt, zc_le, zlt_t, zlt_f, zle_t, zle_f, zeq_t, zeq_f, lz, zadd, zsub, zmul, zneg, zb_e0, zb_e1, boo0, boo1, ua_s, ua_n, ua_ua, up_s, u2_s, u2_f, u2_c, u2_u2, Int.natCast_add, Int.zero_add, Int.add_zero, ↓reduceIte, ne_eq, not_true_eq_false, not_false_eq_true, Int.natCast_one, ↓zsc_1 hn hf hi hb5, ↓zsc_2 hn hf hi hb5, ↓cI hK, ↓zsc_1 hn1 hf1 hi hb5, ↓zsc_2 hn1 hf1 hi hb5, ↓mc_59, ↓cI hM, ↓cI ht, ↓k_L_law__916, ↓k_L_law__2420]
theorem LS_13 {p5 p6 : Value} (hd : 140 ≤ d) (hI : Ivs c n f I A W) (hi : i + 10 ≤ n) (hb5 : n ≤ 5120) : ∃ I2 A2 W2 l5 l6, Ivs (c + 1) n f I2 A2 W2 ∧ q_run qm_L_law_ (q_call q_MT (d + 1)) 40 [.ref 0, .ref 2, .ref 59, .ref 89, .int (zI i), p5, p6] [.int (zI 13)] (zM I A W) = q_run qm_L_law_ (q_call q_MT (d + 1)) 23 [.ref 0, .ref 2, .ref 59, .ref 89, .int (zI ((i : Int) + 10)), l5, l6] [] (zM I2 A2 W2) := by
  have hn := hI.2.1
  have hf := hI.2.2.1
  obtain ⟨I1, A1, W1, I2, A2, W2, k, b, hK, hn1, hf1, hM, hk, hkb, hI2⟩ := QP_would (d := d) (a1 := sv f i 1) (a2 := sv f i 2) (a3 := sv f i 3) (a4 := sv f i 4) (a5 := sv f i 5) (a6 := sv f i 6) (a7 := sv f i 7) (a8 := sv f i 8) (a9 := sv f i 9) (by omega) hI (sv_w f i 1) (sv_w f i 2) (sv_w f i 3) (sv_w f i 4) (sv_w f i 5) (sv_w f i 6) (sv_w f i 7) (sv_w f i 8) (sv_w f i 9)
  have ht := m_thrown (d := d + 1) (I := I2) (A := A2) (W := W2) (by omega)
  rw [hk] at ht
  have ec : zI 13 = (13 : Int32) := rfl
  rw [ec, k_L_law__40_c13]
  rcases hkb with ⟨rfl, hb⟩ | rfl | rfl
  · refine ⟨I2, A2, W2, .int (zI 0), .int (zI b), hI2, ?_⟩
    simp (implicitDefEqProofs := false) (disch := omega) only [↓rI_s, ↓rV_s, ↓rI_e, ↓rV_e, zc_eq, zc_ne, zc_lt, zc_ge, zc_gt, zc_le, zlt_t, zlt_f, zle_t, zle_f, zeq_t, zeq_f, lz, zadd, zsub, zmul, zneg, zb_e0, zb_e1, boo0, boo1, ua_s, ua_n, ua_ua, up_s, u2_s, u2_f, u2_c, u2_u2, Int.natCast_add, Int.zero_add, Int.add_zero, ↓reduceIte, ne_eq, not_true_eq_false, not_false_eq_true, Int.natCast_one, ↓zsc_1 hn hf hi hb5, ↓zsc_2 hn hf hi hb5, ↓zsc_3 hn hf hi hb5, ↓zsc_4 hn hf hi hb5, ↓zsc_5 hn hf hi hb5, ↓zsc_6 hn hf hi hb5, ↓zsc_7 hn hf hi hb5, ↓zsc_8 hn hf hi hb5, ↓zsc_9 hn hf hi hb5, ↓cI hK, ↓zsc_1 hn1 hf1 hi hb5, ↓zsc_2 hn1 hf1 hi hb5, ↓zsc_3 hn1 hf1 hi hb5, ↓zsc_4 hn1 hf1 hi hb5, ↓zsc_5 hn1 hf1 hi hb5, ↓zsc_6 hn1 hf1 hi hb5, ↓zsc_7 hn1 hf1 hi hb5, ↓zsc_8 hn1 hf1 hi hb5, ↓zsc_9 hn1 hf1 hi hb5, ↓mc_59, ↓cI hM, ↓cI ht, ↓z89_l, hb, lg_self, ↓k_L_law__1076, ↓k_L_law__2420]
  · refine ⟨I2, A2, W2, .int (zI 1), .int (zI b), hI2, ?_⟩
    simp (implicitDefEqProofs := false) (disch := omega) only [↓rI_s, ↓rV_s, ↓rI_e, ↓rV_e, zc_eq, zc_ne, zc_lt, zc_ge, zc_gt, zc_le, zlt_t, zlt_f, zle_t, zle_f, zeq_t, zeq_f, lz, zadd, zsub, zmul, zneg, zb_e0, zb_e1, boo0, boo1, ua_s, ua_n, ua_ua, up_s, u2_s, u2_f, u2_c, u2_u2, Int.natCast_add, Int.zero_add, Int.add_zero, ↓reduceIte, ne_eq, not_true_eq_false, not_false_eq_true, Int.natCast_one, ↓zsc_1 hn hf hi hb5, ↓zsc_2 hn hf hi hb5, ↓zsc_3 hn hf hi hb5, ↓zsc_4 hn hf hi hb5, ↓zsc_5 hn hf hi hb5, ↓zsc_6 hn hf hi hb5, ↓zsc_7 hn hf hi hb5, ↓zsc_8 hn hf hi hb5, ↓zsc_9 hn hf hi hb5, ↓cI hK, ↓zsc_1 hn1 hf1 hi hb5, ↓zsc_2 hn1 hf1 hi hb5, ↓zsc_3 hn1 hf1 hi hb5, ↓zsc_4 hn1 hf1 hi hb5, ↓zsc_5 hn1 hf1 hi hb5, ↓zsc_6 hn1 hf1 hi hb5, ↓zsc_7 hn1 hf1 hi hb5, ↓zsc_8 hn1 hf1 hi hb5, ↓zsc_9 hn1 hf1 hi hb5, ↓mc_59, ↓cI hM, ↓cI ht, ↓k_L_law__1076, ↓k_L_law__2420]
  · refine ⟨I2, A2, W2, .int (zI 2), .int (zI b), hI2, ?_⟩
    simp (implicitDefEqProofs := false) (disch := omega) only [↓rI_s, ↓rV_s, ↓rI_e, ↓rV_e, zc_eq, zc_ne, zc_lt, zc_ge, zc_gt, zc_le, zlt_t, zlt_f, zle_t, zle_f, zeq_t, zeq_f, lz, zadd, zsub, zmul, zneg, zb_e0, zb_e1, boo0, boo1, ua_s, ua_n, ua_ua, up_s, u2_s, u2_f, u2_c, u2_u2, Int.natCast_add, Int.zero_add, Int.add_zero, ↓reduceIte, ne_eq, not_true_eq_false, not_false_eq_true, Int.natCast_one, ↓zsc_1 hn hf hi hb5, ↓zsc_2 hn hf hi hb5, ↓zsc_3 hn hf hi hb5, ↓zsc_4 hn hf hi hb5, ↓zsc_5 hn hf hi hb5, ↓zsc_6 hn hf hi hb5, ↓zsc_7 hn hf hi hb5, ↓zsc_8 hn hf hi hb5, ↓zsc_9 hn hf hi hb5, ↓cI hK, ↓zsc_1 hn1 hf1 hi hb5, ↓zsc_2 hn1 hf1 hi hb5, ↓zsc_3 hn1 hf1 hi hb5, ↓zsc_4 hn1 hf1 hi hb5, ↓zsc_5 hn1 hf1 hi hb5, ↓zsc_6 hn1 hf1 hi hb5, ↓zsc_7 hn1 hf1 hi hb5, ↓zsc_8 hn1 hf1 hi hb5, ↓zsc_9 hn1 hf1 hi hb5, ↓mc_59, ↓cI hM, ↓cI ht, ↓k_L_law__1076, ↓k_L_law__2420]
theorem LS_14 {p5 p6 : Value} (hd : 140 ≤ d) (hI : Ivs c n f I A W) (hi : i + 10 ≤ n) (hb5 : n ≤ 5120) : ∃ I2 A2 W2 l5 l6, Ivs (c + 1) n f I2 A2 W2 ∧ q_run qm_L_law_ (q_call q_MT (d + 1)) 40 [.ref 0, .ref 2, .ref 59, .ref 89, .int (zI i), p5, p6] [.int (zI 14)] (zM I A W) = q_run qm_L_law_ (q_call q_MT (d + 1)) 23 [.ref 0, .ref 2, .ref 59, .ref 89, .int (zI ((i : Int) + 10)), l5, l6] [] (zM I2 A2 W2) := by
  have hn := hI.2.1
  have hf := hI.2.2.1
  obtain ⟨I1, A1, W1, I2, A2, W2, k, b, hK, hn1, hf1, hM, hk, hkb, hI2⟩ := QP_down (d := d) (a1 := sv f i 1) (a2 := sv f i 2) (a3 := sv f i 3) (by omega) hI (sv_w f i 1) (sv_w f i 2) (sv_w f i 3)
  have ht := m_thrown (d := d + 1) (I := I2) (A := A2) (W := W2) (by omega)
  rw [hk] at ht
  have ec : zI 14 = (14 : Int32) := rfl
  rw [ec, k_L_law__40_c14]
  rcases hkb with ⟨rfl, hb⟩ | rfl | rfl
  · refine ⟨I2, A2, W2, .int (zI 0), .int (zI b), hI2, ?_⟩
    simp (implicitDefEqProofs := false) (disch := omega) only [↓rI_s, ↓rV_s, ↓rI_e, ↓rV_e, zc_eq, zc_ne, zc_lt, zc_ge, zc_gt, zc_le, zlt_t, zlt_f, zle_t, zle_f, zeq_t, zeq_f, lz, zadd, zsub, zmul, zneg, zb_e0, zb_e1, boo0, boo1, ua_s, ua_n, ua_ua, up_s, u2_s, u2_f, u2_c, u2_u2, Int.natCast_add, Int.zero_add, Int.add_zero, ↓reduceIte, ne_eq, not_true_eq_false, not_false_eq_true, Int.natCast_one, ↓zsc_1 hn hf hi hb5, ↓zsc_2 hn hf hi hb5, ↓zsc_3 hn hf hi hb5, ↓cI hK, ↓zsc_1 hn1 hf1 hi hb5, ↓zsc_2 hn1 hf1 hi hb5, ↓zsc_3 hn1 hf1 hi hb5, ↓mc_59, ↓cI hM, ↓cI ht, ↓z89_l, hb, lg_self, ↓k_L_law__1156, ↓k_L_law__2420]
  · refine ⟨I2, A2, W2, .int (zI 1), .int (zI b), hI2, ?_⟩
    simp (implicitDefEqProofs := false) (disch := omega) only [↓rI_s, ↓rV_s, ↓rI_e, ↓rV_e, zc_eq, zc_ne, zc_lt, zc_ge, zc_gt, zc_le, zlt_t, zlt_f, zle_t, zle_f, zeq_t, zeq_f, lz, zadd, zsub, zmul, zneg, zb_e0, zb_e1, boo0, boo1, ua_s, ua_n, ua_ua, up_s, u2_s, u2_f, u2_c, u2_u2, Int.natCast_add, Int.zero_add, Int.add_zero, ↓reduceIte, ne_eq, not_true_eq_false, not_false_eq_true, Int.natCast_one, ↓zsc_1 hn hf hi hb5, ↓zsc_2 hn hf hi hb5, ↓zsc_3 hn hf hi hb5, ↓cI hK, ↓zsc_1 hn1 hf1 hi hb5, ↓zsc_2 hn1 hf1 hi hb5, ↓zsc_3 hn1 hf1 hi hb5, ↓mc_59, ↓cI hM, ↓cI ht, ↓k_L_law__1156, ↓k_L_law__2420]
  · refine ⟨I2, A2, W2, .int (zI 2), .int (zI b), hI2, ?_⟩
    simp (implicitDefEqProofs := false) (disch := omega) only [↓rI_s, ↓rV_s, ↓rI_e, ↓rV_e, zc_eq, zc_ne, zc_lt, zc_ge, zc_gt, zc_le, zlt_t, zlt_f, zle_t, zle_f, zeq_t, zeq_f, lz, zadd, zsub, zmul, zneg, zb_e0, zb_e1, boo0, boo1, ua_s, ua_n, ua_ua, up_s, u2_s, u2_f, u2_c, u2_u2, Int.natCast_add, Int.zero_add, Int.add_zero, ↓reduceIte, ne_eq, not_true_eq_false, not_false_eq_true, Int.natCast_one, ↓zsc_1 hn hf hi hb5, ↓zsc_2 hn hf hi hb5, ↓zsc_3 hn hf hi hb5, ↓cI hK, ↓zsc_1 hn1 hf1 hi hb5, ↓zsc_2 hn1 hf1 hi hb5, ↓zsc_3 hn1 hf1 hi hb5, ↓mc_59, ↓cI hM, ↓cI ht, ↓k_L_law__1156, ↓k_L_law__2420]
theorem LS_15 {p5 p6 : Value} (hd : 140 ≤ d) (hI : Ivs c n f I A W) (hi : i + 10 ≤ n) (hb5 : n ≤ 5120) : ∃ I2 A2 W2 l5 l6, Ivs (c + 1) n f I2 A2 W2 ∧ q_run qm_L_law_ (q_call q_MT (d + 1)) 40 [.ref 0, .ref 2, .ref 59, .ref 89, .int (zI i), p5, p6] [.int (zI 15)] (zM I A W) = q_run qm_L_law_ (q_call q_MT (d + 1)) 23 [.ref 0, .ref 2, .ref 59, .ref 89, .int (zI ((i : Int) + 10)), l5, l6] [] (zM I2 A2 W2) := by
  have hn := hI.2.1
  have hf := hI.2.2.1
  obtain ⟨I1, A1, W1, I2, A2, W2, k, b, hK, hn1, hf1, hM, hk, hkb, hI2⟩ := QP_presses (d := d) (a1 := sv f i 1) (a2 := sv f i 2) (by omega) hI (sv_w f i 1) (sv_w f i 2)
  have ht := m_thrown (d := d + 1) (I := I2) (A := A2) (W := W2) (by omega)
  rw [hk] at ht
  have ec : zI 15 = (15 : Int32) := rfl
  rw [ec, k_L_law__40_c15]
  rcases hkb with ⟨rfl, hb⟩ | rfl | rfl
  · refine ⟨I2, A2, W2, .int (zI 0), .int (zI b), hI2, ?_⟩
    simp (implicitDefEqProofs := false) (disch := omega) only [↓rI_s, ↓rV_s, ↓rI_e, ↓rV_e, zc_eq, zc_ne, zc_lt, zc_ge, zc_gt, zc_le, zlt_t, zlt_f, zle_t, zle_f, zeq_t, zeq_f, lz, zadd, zsub, zmul, zneg, zb_e0, zb_e1, boo0, boo1, ua_s, ua_n, ua_ua, up_s, u2_s, u2_f, u2_c, u2_u2, Int.natCast_add, Int.zero_add, Int.add_zero, ↓reduceIte, ne_eq, not_true_eq_false, not_false_eq_true, Int.natCast_one, ↓zsc_1 hn hf hi hb5, ↓zsc_2 hn hf hi hb5, ↓cI hK, ↓zsc_1 hn1 hf1 hi hb5, ↓zsc_2 hn1 hf1 hi hb5, ↓mc_59, ↓cI hM, ↓cI ht, ↓z89_l, hb, lg_self, ↓k_L_law__1224, ↓k_L_law__2420]
  · refine ⟨I2, A2, W2, .int (zI 1), .int (zI b), hI2, ?_⟩
    simp (implicitDefEqProofs := false) (disch := omega) only [↓rI_s, ↓rV_s, ↓rI_e, ↓rV_e, zc_eq, zc_ne, zc_lt, zc_ge, zc_gt, zc_le, zlt_t, zlt_f, zle_t, zle_f, zeq_t, zeq_f, lz, zadd, zsub, zmul, zneg, zb_e0, zb_e1, boo0, boo1, ua_s, ua_n, ua_ua, up_s, u2_s, u2_f, u2_c, u2_u2, Int.natCast_add, Int.zero_add, Int.add_zero, ↓reduceIte, ne_eq, not_true_eq_false, not_false_eq_true, Int.natCast_one, ↓zsc_1 hn hf hi hb5, ↓zsc_2 hn hf hi hb5, ↓cI hK, ↓zsc_1 hn1 hf1 hi hb5, ↓zsc_2 hn1 hf1 hi hb5, ↓mc_59, ↓cI hM, ↓cI ht, ↓k_L_law__1224, ↓k_L_law__2420]
  · refine ⟨I2, A2, W2, .int (zI 2), .int (zI b), hI2, ?_⟩
    simp (implicitDefEqProofs := false) (disch := omega) only [↓rI_s, ↓rV_s, ↓rI_e, ↓rV_e, zc_eq, zc_ne, zc_lt, zc_ge, zc_gt, zc_le, zlt_t, zlt_f, zle_t, zle_f, zeq_t, zeq_f, lz, zadd, zsub, zmul, zneg, zb_e0, zb_e1, boo0, boo1, ua_s, ua_n, ua_ua, up_s, u2_s, u2_f, u2_c, u2_u2, Int.natCast_add, Int.zero_add, Int.add_zero, ↓reduceIte, ne_eq, not_true_eq_false, not_false_eq_true, Int.natCast_one, ↓zsc_1 hn hf hi hb5, ↓zsc_2 hn hf hi hb5, ↓cI hK, ↓zsc_1 hn1 hf1 hi hb5, ↓zsc_2 hn1 hf1 hi hb5, ↓mc_59, ↓cI hM, ↓cI ht, ↓k_L_law__1224, ↓k_L_law__2420]
theorem LS_16 {p5 p6 : Value} (hd : 140 ≤ d) (hI : Ivs c n f I A W) (hi : i + 10 ≤ n) (hb5 : n ≤ 5120) : ∃ I2 A2 W2 l5 l6, Ivs (c + 1) n f I2 A2 W2 ∧ q_run qm_L_law_ (q_call q_MT (d + 1)) 40 [.ref 0, .ref 2, .ref 59, .ref 89, .int (zI i), p5, p6] [.int (zI 16)] (zM I A W) = q_run qm_L_law_ (q_call q_MT (d + 1)) 23 [.ref 0, .ref 2, .ref 59, .ref 89, .int (zI ((i : Int) + 10)), l5, l6] [] (zM I2 A2 W2) := by
  have hn := hI.2.1
  have hf := hI.2.2.1
  obtain ⟨I1, A1, W1, I2, A2, W2, k, b, hK, hn1, hf1, hM, hk, hkb, hI2⟩ := QP_gain (d := d) (a1 := sv f i 1) (a2 := sv f i 2) (by omega) hI (sv_w f i 1) (sv_w f i 2)
  have ht := m_thrown (d := d + 1) (I := I2) (A := A2) (W := W2) (by omega)
  rw [hk] at ht
  have ec : zI 16 = (16 : Int32) := rfl
  rw [ec, k_L_law__40_c16]
  rcases hkb with ⟨rfl, hb⟩ | rfl | rfl
  · refine ⟨I2, A2, W2, .int (zI 0), .int (zI b), hI2, ?_⟩
    simp (implicitDefEqProofs := false) (disch := omega) only [↓rI_s, ↓rV_s, ↓rI_e, ↓rV_e, zc_eq, zc_ne, zc_lt, zc_ge, zc_gt, zc_le, zlt_t, zlt_f, zle_t, zle_f, zeq_t, zeq_f, lz, zadd, zsub, zmul, zneg, zb_e0, zb_e1, boo0, boo1, ua_s, ua_n, ua_ua, up_s, u2_s, u2_f, u2_c, u2_u2, Int.natCast_add, Int.zero_add, Int.add_zero, ↓reduceIte, ne_eq, not_true_eq_false, not_false_eq_true, Int.natCast_one, ↓zsc_1 hn hf hi hb5, ↓zsc_2 hn hf hi hb5, ↓cI hK, ↓zsc_1 hn1 hf1 hi hb5, ↓zsc_2 hn1 hf1 hi hb5, ↓mc_59, ↓cI hM, ↓cI ht, ↓z89_l, hb, lg_self, ↓k_L_law__1292, ↓k_L_law__2420]
  · refine ⟨I2, A2, W2, .int (zI 1), .int (zI b), hI2, ?_⟩
    simp (implicitDefEqProofs := false) (disch := omega) only [↓rI_s, ↓rV_s, ↓rI_e, ↓rV_e, zc_eq, zc_ne, zc_lt, zc_ge, zc_gt, zc_le, zlt_t, zlt_f, zle_t, zle_f, zeq_t, zeq_f, lz, zadd, zsub, zmul, zneg, zb_e0, zb_e1, boo0, boo1, ua_s, ua_n, ua_ua, up_s, u2_s, u2_f, u2_c, u2_u2, Int.natCast_add, Int.zero_add, Int.add_zero, ↓reduceIte, ne_eq, not_true_eq_false, not_false_eq_true, Int.natCast_one, ↓zsc_1 hn hf hi hb5, ↓zsc_2 hn hf hi hb5, ↓cI hK, ↓zsc_1 hn1 hf1 hi hb5, ↓zsc_2 hn1 hf1 hi hb5, ↓mc_59, ↓cI hM, ↓cI ht, ↓k_L_law__1292, ↓k_L_law__2420]
  · refine ⟨I2, A2, W2, .int (zI 2), .int (zI b), hI2, ?_⟩
    simp (implicitDefEqProofs := false) (disch := omega) only [↓rI_s, ↓rV_s, ↓rI_e, ↓rV_e, zc_eq, zc_ne, zc_lt, zc_ge, zc_gt, zc_le, zlt_t, zlt_f, zle_t, zle_f, zeq_t, zeq_f, lz, zadd, zsub, zmul, zneg, zb_e0, zb_e1, boo0, boo1, ua_s, ua_n, ua_ua, up_s, u2_s, u2_f, u2_c, u2_u2, Int.natCast_add, Int.zero_add, Int.add_zero, ↓reduceIte, ne_eq, not_true_eq_false, not_false_eq_true, Int.natCast_one, ↓zsc_1 hn hf hi hb5, ↓zsc_2 hn hf hi hb5, ↓cI hK, ↓zsc_1 hn1 hf1 hi hb5, ↓zsc_2 hn1 hf1 hi hb5, ↓mc_59, ↓cI hM, ↓cI ht, ↓k_L_law__1292, ↓k_L_law__2420]
theorem LS_17 {p5 p6 : Value} (hd : 140 ≤ d) (hI : Ivs c n f I A W) (hi : i + 10 ≤ n) (hb5 : n ≤ 5120) : ∃ I2 A2 W2 l5 l6, Ivs (c + 1) n f I2 A2 W2 ∧ q_run qm_L_law_ (q_call q_MT (d + 1)) 40 [.ref 0, .ref 2, .ref 59, .ref 89, .int (zI i), p5, p6] [.int (zI 17)] (zM I A W) = q_run qm_L_law_ (q_call q_MT (d + 1)) 23 [.ref 0, .ref 2, .ref 59, .ref 89, .int (zI ((i : Int) + 10)), l5, l6] [] (zM I2 A2 W2) := by
  have hn := hI.2.1
  have hf := hI.2.2.1
  obtain ⟨I1, A1, W1, I2, A2, W2, k, b, hK, hn1, hf1, hM, hk, hkb, hI2⟩ := QP_way (d := d) (a1 := sv f i 1) (a2 := sv f i 2) (by omega) hI (sv_w f i 1) (sv_w f i 2)
  have ht := m_thrown (d := d + 1) (I := I2) (A := A2) (W := W2) (by omega)
  rw [hk] at ht
  have ec : zI 17 = (17 : Int32) := rfl
  rw [ec, k_L_law__40_c17]
  rcases hkb with ⟨rfl, hb⟩ | rfl | rfl
  · refine ⟨I2, A2, W2, .int (zI 0), .int (zI b), hI2, ?_⟩
    simp (implicitDefEqProofs := false) (disch := omega) only [↓rI_s, ↓rV_s, ↓rI_e, ↓rV_e, zc_eq, zc_ne, zc_lt, zc_ge, zc_gt, zc_le, zlt_t, zlt_f, zle_t, zle_f, zeq_t, zeq_f, lz, zadd, zsub, zmul, zneg, zb_e0, zb_e1, boo0, boo1, ua_s, ua_n, ua_ua, up_s, u2_s, u2_f, u2_c, u2_u2, Int.natCast_add, Int.zero_add, Int.add_zero, ↓reduceIte, ne_eq, not_true_eq_false, not_false_eq_true, Int.natCast_one, ↓zsc_1 hn hf hi hb5, ↓zsc_2 hn hf hi hb5, ↓cI hK, ↓zsc_1 hn1 hf1 hi hb5, ↓zsc_2 hn1 hf1 hi hb5, ↓mc_59, ↓cI hM, ↓cI ht, ↓z89_l, hb, lg_self, ↓k_L_law__1360, ↓k_L_law__2420]
  · refine ⟨I2, A2, W2, .int (zI 1), .int (zI b), hI2, ?_⟩
    simp (implicitDefEqProofs := false) (disch := omega) only [↓rI_s, ↓rV_s, ↓rI_e, ↓rV_e, zc_eq, zc_ne, zc_lt, zc_ge, zc_gt, zc_le, zlt_t, zlt_f, zle_t, zle_f, zeq_t, zeq_f, lz, zadd, zsub, zmul, zneg, zb_e0, zb_e1, boo0, boo1, ua_s, ua_n, ua_ua, up_s, u2_s, u2_f, u2_c, u2_u2, Int.natCast_add, Int.zero_add, Int.add_zero, ↓reduceIte, ne_eq, not_true_eq_false, not_false_eq_true, Int.natCast_one, ↓zsc_1 hn hf hi hb5, ↓zsc_2 hn hf hi hb5, ↓cI hK, ↓zsc_1 hn1 hf1 hi hb5, ↓zsc_2 hn1 hf1 hi hb5, ↓mc_59, ↓cI hM, ↓cI ht, ↓k_L_law__1360, ↓k_L_law__2420]
  · refine ⟨I2, A2, W2, .int (zI 2), .int (zI b), hI2, ?_⟩
    simp (implicitDefEqProofs := false) (disch := omega) only [↓rI_s, ↓rV_s, ↓rI_e, ↓rV_e, zc_eq, zc_ne, zc_lt, zc_ge, zc_gt, zc_le, zlt_t, zlt_f, zle_t, zle_f, zeq_t, zeq_f, lz, zadd, zsub, zmul, zneg, zb_e0, zb_e1, boo0, boo1, ua_s, ua_n, ua_ua, up_s, u2_s, u2_f, u2_c, u2_u2, Int.natCast_add, Int.zero_add, Int.add_zero, ↓reduceIte, ne_eq, not_true_eq_false, not_false_eq_true, Int.natCast_one, ↓zsc_1 hn hf hi hb5, ↓zsc_2 hn hf hi hb5, ↓cI hK, ↓zsc_1 hn1 hf1 hi hb5, ↓zsc_2 hn1 hf1 hi hb5, ↓mc_59, ↓cI hM, ↓cI ht, ↓k_L_law__1360, ↓k_L_law__2420]
theorem LS_18 {p5 p6 : Value} (hd : 140 ≤ d) (hI : Ivs c n f I A W) (hi : i + 10 ≤ n) (hb5 : n ≤ 5120) : ∃ I2 A2 W2 l5 l6, Ivs (c + 1) n f I2 A2 W2 ∧ q_run qm_L_law_ (q_call q_MT (d + 1)) 40 [.ref 0, .ref 2, .ref 59, .ref 89, .int (zI i), p5, p6] [.int (zI 18)] (zM I A W) = q_run qm_L_law_ (q_call q_MT (d + 1)) 23 [.ref 0, .ref 2, .ref 59, .ref 89, .int (zI ((i : Int) + 10)), l5, l6] [] (zM I2 A2 W2) := by
  have hn := hI.2.1
  have hf := hI.2.2.1
  obtain ⟨I1, A1, W1, I2, A2, W2, k, b, hK, hn1, hf1, hM, hk, hkb, hI2⟩ := QP_odds (d := d) (a1 := sv f i 1) (a2 := sv f i 2) (a3 := sv f i 3) (a4 := sv f i 4) (by omega) hI (sv_w f i 1) (sv_w f i 2) (sv_w f i 3) (sv_w f i 4)
  have ht := m_thrown (d := d + 1) (I := I2) (A := A2) (W := W2) (by omega)
  rw [hk] at ht
  have ec : zI 18 = (18 : Int32) := rfl
  rw [ec, k_L_law__40_c18]
  rcases hkb with ⟨rfl, hb⟩ | rfl | rfl
  · refine ⟨I2, A2, W2, .int (zI 0), .int (zI b), hI2, ?_⟩
    simp (implicitDefEqProofs := false) (disch := omega) only [↓rI_s, ↓rV_s, ↓rI_e, ↓rV_e, zc_eq, zc_ne, zc_lt, zc_ge, zc_gt, zc_le, zlt_t, zlt_f, zle_t, zle_f, zeq_t, zeq_f, lz, zadd, zsub, zmul, zneg, zb_e0, zb_e1, boo0, boo1, ua_s, ua_n, ua_ua, up_s, u2_s, u2_f, u2_c, u2_u2, Int.natCast_add, Int.zero_add, Int.add_zero, ↓reduceIte, ne_eq, not_true_eq_false, not_false_eq_true, Int.natCast_one, ↓zsc_1 hn hf hi hb5, ↓zsc_2 hn hf hi hb5, ↓zsc_3 hn hf hi hb5, ↓zsc_4 hn hf hi hb5, ↓cI hK, ↓zsc_1 hn1 hf1 hi hb5, ↓zsc_2 hn1 hf1 hi hb5, ↓zsc_3 hn1 hf1 hi hb5, ↓zsc_4 hn1 hf1 hi hb5, ↓mc_59, ↓cI hM, ↓cI ht, ↓z89_l, hb, lg_self, ↓k_L_law__1452, ↓k_L_law__2420]
  · refine ⟨I2, A2, W2, .int (zI 1), .int (zI b), hI2, ?_⟩
    simp (implicitDefEqProofs := false) (disch := omega) only [↓rI_s, ↓rV_s, ↓rI_e, ↓rV_e, zc_eq, zc_ne, zc_lt, zc_ge, zc_gt, zc_le, zlt_t, zlt_f, zle_t, zle_f, zeq_t, zeq_f, lz, zadd, zsub, zmul, zneg, zb_e0, zb_e1, boo0, boo1, ua_s, ua_n, ua_ua, up_s, u2_s, u2_f, u2_c, u2_u2, Int.natCast_add, Int.zero_add, Int.add_zero, ↓reduceIte, ne_eq, not_true_eq_false, not_false_eq_true, Int.natCast_one, ↓zsc_1 hn hf hi hb5, ↓zsc_2 hn hf hi hb5, ↓zsc_3 hn hf hi hb5, ↓zsc_4 hn hf hi hb5, ↓cI hK, ↓zsc_1 hn1 hf1 hi hb5, ↓zsc_2 hn1 hf1 hi hb5, ↓zsc_3 hn1 hf1 hi hb5, ↓zsc_4 hn1 hf1 hi hb5, ↓mc_59, ↓cI hM, ↓cI ht, ↓k_L_law__1452, ↓k_L_law__2420]
  · refine ⟨I2, A2, W2, .int (zI 2), .int (zI b), hI2, ?_⟩
    simp (implicitDefEqProofs := false) (disch := omega) only [↓rI_s, ↓rV_s, ↓rI_e, ↓rV_e, zc_eq, zc_ne, zc_lt, zc_ge, zc_gt, zc_le, zlt_t, zlt_f, zle_t, zle_f, zeq_t, zeq_f, lz, zadd, zsub, zmul, zneg, zb_e0, zb_e1, boo0, boo1, ua_s, ua_n, ua_ua, up_s, u2_s, u2_f, u2_c, u2_u2, Int.natCast_add, Int.zero_add, Int.add_zero, ↓reduceIte, ne_eq, not_true_eq_false, not_false_eq_true, Int.natCast_one, ↓zsc_1 hn hf hi hb5, ↓zsc_2 hn hf hi hb5, ↓zsc_3 hn hf hi hb5, ↓zsc_4 hn hf hi hb5, ↓cI hK, ↓zsc_1 hn1 hf1 hi hb5, ↓zsc_2 hn1 hf1 hi hb5, ↓zsc_3 hn1 hf1 hi hb5, ↓zsc_4 hn1 hf1 hi hb5, ↓mc_59, ↓cI hM, ↓cI ht, ↓k_L_law__1452, ↓k_L_law__2420]
theorem LS_19 {p5 p6 : Value} (hd : 140 ≤ d) (hI : Ivs c n f I A W) (hi : i + 10 ≤ n) (hb5 : n ≤ 5120) : ∃ I2 A2 W2 l5 l6, Ivs (c + 1) n f I2 A2 W2 ∧ q_run qm_L_law_ (q_call q_MT (d + 1)) 40 [.ref 0, .ref 2, .ref 59, .ref 89, .int (zI i), p5, p6] [.int (zI 19)] (zM I A W) = q_run qm_L_law_ (q_call q_MT (d + 1)) 23 [.ref 0, .ref 2, .ref 59, .ref 89, .int (zI ((i : Int) + 10)), l5, l6] [] (zM I2 A2 W2) := by
  have hn := hI.2.1
  have hf := hI.2.2.1
  obtain ⟨I1, A1, W1, I2, A2, W2, k, b, hK, hn1, hf1, hM, hk, hkb, hI2⟩ := QP_mean (d := d) (a1 := sv f i 1) (a2 := sv f i 2) (a3 := sv f i 3) (a4 := sv f i 4) (by omega) hI (sv_w f i 1) (sv_w f i 2) (sv_w f i 3) (sv_w f i 4)
  have ht := m_thrown (d := d + 1) (I := I2) (A := A2) (W := W2) (by omega)
  rw [hk] at ht
  have ec : zI 19 = (19 : Int32) := rfl
  rw [ec, k_L_law__40_c19]
  rcases hkb with ⟨rfl, hb⟩ | rfl | rfl
  · refine ⟨I2, A2, W2, .int (zI 0), .int (zI b), hI2, ?_⟩
    simp (implicitDefEqProofs := false) (disch := omega) only [↓rI_s, ↓rV_s, ↓rI_e, ↓rV_e, zc_eq, zc_ne, zc_lt, zc_ge, zc_gt, zc_le, zlt_t, zlt_f, zle_t, zle_f, zeq_t, zeq_f, lz, zadd, zsub, zmul, zneg, zb_e0, zb_e1, boo0, boo1, ua_s, ua_n, ua_ua, up_s, u2_s, u2_f, u2_c, u2_u2, Int.natCast_add, Int.zero_add, Int.add_zero, ↓reduceIte, ne_eq, not_true_eq_false, not_false_eq_true, Int.natCast_one, ↓zsc_1 hn hf hi hb5, ↓zsc_2 hn hf hi hb5, ↓zsc_3 hn hf hi hb5, ↓zsc_4 hn hf hi hb5, ↓cI hK, ↓zsc_1 hn1 hf1 hi hb5, ↓zsc_2 hn1 hf1 hi hb5, ↓zsc_3 hn1 hf1 hi hb5, ↓zsc_4 hn1 hf1 hi hb5, ↓mc_59, ↓cI hM, ↓cI ht, ↓z89_l, hb, lg_self, ↓k_L_law__1544, ↓k_L_law__2420]
  · refine ⟨I2, A2, W2, .int (zI 1), .int (zI b), hI2, ?_⟩
    simp (implicitDefEqProofs := false) (disch := omega) only [↓rI_s, ↓rV_s, ↓rI_e, ↓rV_e, zc_eq, zc_ne, zc_lt, zc_ge, zc_gt, zc_le, zlt_t, zlt_f, zle_t, zle_f, zeq_t, zeq_f, lz, zadd, zsub, zmul, zneg, zb_e0, zb_e1, boo0, boo1, ua_s, ua_n, ua_ua, up_s, u2_s, u2_f, u2_c, u2_u2, Int.natCast_add, Int.zero_add, Int.add_zero, ↓reduceIte, ne_eq, not_true_eq_false, not_false_eq_true, Int.natCast_one, ↓zsc_1 hn hf hi hb5, ↓zsc_2 hn hf hi hb5, ↓zsc_3 hn hf hi hb5, ↓zsc_4 hn hf hi hb5, ↓cI hK, ↓zsc_1 hn1 hf1 hi hb5, ↓zsc_2 hn1 hf1 hi hb5, ↓zsc_3 hn1 hf1 hi hb5, ↓zsc_4 hn1 hf1 hi hb5, ↓mc_59, ↓cI hM, ↓cI ht, ↓k_L_law__1544, ↓k_L_law__2420]
  · refine ⟨I2, A2, W2, .int (zI 2), .int (zI b), hI2, ?_⟩
    simp (implicitDefEqProofs := false) (disch := omega) only [↓rI_s, ↓rV_s, ↓rI_e, ↓rV_e, zc_eq, zc_ne, zc_lt, zc_ge, zc_gt, zc_le, zlt_t, zlt_f, zle_t, zle_f, zeq_t, zeq_f, lz, zadd, zsub, zmul, zneg, zb_e0, zb_e1, boo0, boo1, ua_s, ua_n, ua_ua, up_s, u2_s, u2_f, u2_c, u2_u2, Int.natCast_add, Int.zero_add, Int.add_zero, ↓reduceIte, ne_eq, not_true_eq_false, not_false_eq_true, Int.natCast_one, ↓zsc_1 hn hf hi hb5, ↓zsc_2 hn hf hi hb5, ↓zsc_3 hn hf hi hb5, ↓zsc_4 hn hf hi hb5, ↓cI hK, ↓zsc_1 hn1 hf1 hi hb5, ↓zsc_2 hn1 hf1 hi hb5, ↓zsc_3 hn1 hf1 hi hb5, ↓zsc_4 hn1 hf1 hi hb5, ↓mc_59, ↓cI hM, ↓cI ht, ↓k_L_law__1544, ↓k_L_law__2420]
theorem LS_20 {p5 p6 : Value} (hd : 140 ≤ d) (hI : Ivs c n f I A W) (hi : i + 10 ≤ n) (hb5 : n ≤ 5120) : ∃ I2 A2 W2 l5 l6, Ivs (c + 1) n f I2 A2 W2 ∧ q_run qm_L_law_ (q_call q_MT (d + 1)) 40 [.ref 0, .ref 2, .ref 59, .ref 89, .int (zI i), p5, p6] [.int (zI 20)] (zM I A W) = q_run qm_L_law_ (q_call q_MT (d + 1)) 23 [.ref 0, .ref 2, .ref 59, .ref 89, .int (zI ((i : Int) + 10)), l5, l6] [] (zM I2 A2 W2) := by
  have hn := hI.2.1
  have hf := hI.2.2.1
  obtain ⟨I1, A1, W1, I2, A2, W2, b, hK, hn1, hf1, hM, hI2⟩ := DP_match (d := d + 1)  (by omega) hI 
  have ec : zI 20 = (20 : Int32) := rfl
  rw [ec, k_L_law__40_c20]
  refine ⟨I2, A2, W2, p5, p6, hI2, ?_⟩
  simp (implicitDefEqProofs := false) (disch := omega) only [↓rI_s, ↓rV_s, ↓rI_e, ↓rV_e, zc_eq, zc_ne, zc_lt, zc_ge, zc_gt, zc_le, zlt_t, zlt_f, zle_t, zle_f, zeq_t, zeq_f, lz, zadd, zsub, zmul, zneg, zb_e0, zb_e1, boo0, boo1, ua_s, ua_n, ua_ua, up_s, u2_s, u2_f, u2_c, u2_u2, Int.natCast_add, Int.zero_add, Int.add_zero, ↓reduceIte, ne_eq, not_true_eq_false, not_false_eq_true, Int.natCast_one, ↓mc_2, ↓cI hK, ↓mc_59, ↓cI hM, ↓k_L_law__2420]
theorem LS_21 {p5 p6 : Value} (hd : 140 ≤ d) (hI : Ivs c n f I A W) (hi : i + 10 ≤ n) (hb5 : n ≤ 5120) : ∃ I2 A2 W2 l5 l6, Ivs (c + 1) n f I2 A2 W2 ∧ q_run qm_L_law_ (q_call q_MT (d + 1)) 40 [.ref 0, .ref 2, .ref 59, .ref 89, .int (zI i), p5, p6] [.int (zI 21)] (zM I A W) = q_run qm_L_law_ (q_call q_MT (d + 1)) 23 [.ref 0, .ref 2, .ref 59, .ref 89, .int (zI ((i : Int) + 10)), l5, l6] [] (zM I2 A2 W2) := by
  have hn := hI.2.1
  have hf := hI.2.2.1
  obtain ⟨I1, A1, W1, I2, A2, W2, k, b, hK, hn1, hf1, hM, hk, hkb, hI2⟩ := QP_matched (d := d) (a1 := sv f i 1) (by omega) hI (sv_w f i 1)
  have ht := m_thrown (d := d + 1) (I := I2) (A := A2) (W := W2) (by omega)
  rw [hk] at ht
  have ec : zI 21 = (21 : Int32) := rfl
  rw [ec, k_L_law__40_c21]
  rcases hkb with ⟨rfl, hb⟩ | rfl | rfl
  · refine ⟨I2, A2, W2, .int (zI 0), .int (zI b), hI2, ?_⟩
    simp (implicitDefEqProofs := false) (disch := omega) only [↓rI_s, ↓rV_s, ↓rI_e, ↓rV_e, zc_eq, zc_ne, zc_lt, zc_ge, zc_gt, zc_le, zlt_t, zlt_f, zle_t, zle_f, zeq_t, zeq_f, lz, zadd, zsub, zmul, zneg, zb_e0, zb_e1, boo0, boo1, ua_s, ua_n, ua_ua, up_s, u2_s, u2_f, u2_c, u2_u2, Int.natCast_add, Int.zero_add, Int.add_zero, ↓reduceIte, ne_eq, not_true_eq_false, not_false_eq_true, Int.natCast_one, ↓zsc_1 hn hf hi hb5, ↓cI hK, ↓zsc_1 hn1 hf1 hi hb5, ↓mc_59, ↓cI hM, ↓cI ht, ↓z89_l, hb, lg_self, ↓k_L_law__1613, ↓k_L_law__2420]
  · refine ⟨I2, A2, W2, .int (zI 1), .int (zI b), hI2, ?_⟩
    simp (implicitDefEqProofs := false) (disch := omega) only [↓rI_s, ↓rV_s, ↓rI_e, ↓rV_e, zc_eq, zc_ne, zc_lt, zc_ge, zc_gt, zc_le, zlt_t, zlt_f, zle_t, zle_f, zeq_t, zeq_f, lz, zadd, zsub, zmul, zneg, zb_e0, zb_e1, boo0, boo1, ua_s, ua_n, ua_ua, up_s, u2_s, u2_f, u2_c, u2_u2, Int.natCast_add, Int.zero_add, Int.add_zero, ↓reduceIte, ne_eq, not_true_eq_false, not_false_eq_true, Int.natCast_one, ↓zsc_1 hn hf hi hb5, ↓cI hK, ↓zsc_1 hn1 hf1 hi hb5, ↓mc_59, ↓cI hM, ↓cI ht, ↓k_L_law__1613, ↓k_L_law__2420]
  · refine ⟨I2, A2, W2, .int (zI 2), .int (zI b), hI2, ?_⟩
    simp (implicitDefEqProofs := false) (disch := omega) only [↓rI_s, ↓rV_s, ↓rI_e, ↓rV_e, zc_eq, zc_ne, zc_lt, zc_ge, zc_gt, zc_le, zlt_t, zlt_f, zle_t, zle_f, zeq_t, zeq_f, lz, zadd, zsub, zmul, zneg, zb_e0, zb_e1, boo0, boo1, ua_s, ua_n, ua_ua, up_s, u2_s, u2_f, u2_c, u2_u2, Int.natCast_add, Int.zero_add, Int.add_zero, ↓reduceIte, ne_eq, not_true_eq_false, not_false_eq_true, Int.natCast_one, ↓zsc_1 hn hf hi hb5, ↓cI hK, ↓zsc_1 hn1 hf1 hi hb5, ↓mc_59, ↓cI hM, ↓cI ht, ↓k_L_law__1613, ↓k_L_law__2420]
theorem LS_22 {p5 p6 : Value} (hd : 140 ≤ d) (hI : Ivs c n f I A W) (hi : i + 10 ≤ n) (hb5 : n ≤ 5120) : ∃ I2 A2 W2 l5 l6, Ivs (c + 1) n f I2 A2 W2 ∧ q_run qm_L_law_ (q_call q_MT (d + 1)) 40 [.ref 0, .ref 2, .ref 59, .ref 89, .int (zI i), p5, p6] [.int (zI 22)] (zM I A W) = q_run qm_L_law_ (q_call q_MT (d + 1)) 23 [.ref 0, .ref 2, .ref 59, .ref 89, .int (zI ((i : Int) + 10)), l5, l6] [] (zM I2 A2 W2) := by
  have hn := hI.2.1
  have hf := hI.2.2.1
  obtain ⟨I1, A1, W1, I2, A2, W2, k, b, hK, hn1, hf1, hM, hk, hkb, hI2⟩ := QP_fits (d := d) (a1 := sv f i 1) (a2 := sv f i 2) (by omega) hI (sv_w f i 1) (sv_w f i 2)
  have ht := m_thrown (d := d + 1) (I := I2) (A := A2) (W := W2) (by omega)
  rw [hk] at ht
  have ec : zI 22 = (22 : Int32) := rfl
  rw [ec, k_L_law__40_c22]
  rcases hkb with ⟨rfl, hb⟩ | rfl | rfl
  · refine ⟨I2, A2, W2, .int (zI 0), .int (zI b), hI2, ?_⟩
    simp (implicitDefEqProofs := false) (disch := omega) only [↓rI_s, ↓rV_s, ↓rI_e, ↓rV_e, zc_eq, zc_ne, zc_lt, zc_ge, zc_gt, zc_le, zlt_t, zlt_f, zle_t, zle_f, zeq_t, zeq_f, lz, zadd, zsub, zmul, zneg, zb_e0, zb_e1, boo0, boo1, ua_s, ua_n, ua_ua, up_s, u2_s, u2_f, u2_c, u2_u2, Int.natCast_add, Int.zero_add, Int.add_zero, ↓reduceIte, ne_eq, not_true_eq_false, not_false_eq_true, Int.natCast_one, ↓zsc_1 hn hf hi hb5, ↓zsc_2 hn hf hi hb5, ↓cI hK, ↓zsc_1 hn1 hf1 hi hb5, ↓zsc_2 hn1 hf1 hi hb5, ↓mc_59, ↓cI hM, ↓cI ht, ↓z89_l, hb, lg_self, ↓k_L_law__1681, ↓k_L_law__2420]
  · refine ⟨I2, A2, W2, .int (zI 1), .int (zI b), hI2, ?_⟩
    simp (implicitDefEqProofs := false) (disch := omega) only [↓rI_s, ↓rV_s, ↓rI_e, ↓rV_e, zc_eq, zc_ne, zc_lt, zc_ge, zc_gt, zc_le, zlt_t, zlt_f, zle_t, zle_f, zeq_t, zeq_f, lz, zadd, zsub, zmul, zneg, zb_e0, zb_e1, boo0, boo1, ua_s, ua_n, ua_ua, up_s, u2_s, u2_f, u2_c, u2_u2, Int.natCast_add, Int.zero_add, Int.add_zero, ↓reduceIte, ne_eq, not_true_eq_false, not_false_eq_true, Int.natCast_one, ↓zsc_1 hn hf hi hb5, ↓zsc_2 hn hf hi hb5, ↓cI hK, ↓zsc_1 hn1 hf1 hi hb5, ↓zsc_2 hn1 hf1 hi hb5, ↓mc_59, ↓cI hM, ↓cI ht, ↓k_L_law__1681, ↓k_L_law__2420]
  · refine ⟨I2, A2, W2, .int (zI 2), .int (zI b), hI2, ?_⟩
    simp (implicitDefEqProofs := false) (disch := omega) only [↓rI_s, ↓rV_s, ↓rI_e, ↓rV_e, zc_eq, zc_ne, zc_lt, zc_ge, zc_gt, zc_le, zlt_t, zlt_f, zle_t, zle_f, zeq_t, zeq_f, lz, zadd, zsub, zmul, zneg, zb_e0, zb_e1, boo0, boo1, ua_s, ua_n, ua_ua, up_s, u2_s, u2_f, u2_c, u2_u2, Int.natCast_add, Int.zero_add, Int.add_zero, ↓reduceIte, ne_eq, not_true_eq_false, not_false_eq_true, Int.natCast_one, ↓zsc_1 hn hf hi hb5, ↓zsc_2 hn hf hi hb5, ↓cI hK, ↓zsc_1 hn1 hf1 hi hb5, ↓zsc_2 hn1 hf1 hi hb5, ↓mc_59, ↓cI hM, ↓cI ht, ↓k_L_law__1681, ↓k_L_law__2420]
theorem LS_23 {p5 p6 : Value} (hd : 140 ≤ d) (hI : Ivs c n f I A W) (hi : i + 10 ≤ n) (hb5 : n ≤ 5120) : ∃ I2 A2 W2 l5 l6, Ivs (c + 1) n f I2 A2 W2 ∧ q_run qm_L_law_ (q_call q_MT (d + 1)) 40 [.ref 0, .ref 2, .ref 59, .ref 89, .int (zI i), p5, p6] [.int (zI 23)] (zM I A W) = q_run qm_L_law_ (q_call q_MT (d + 1)) 23 [.ref 0, .ref 2, .ref 59, .ref 89, .int (zI ((i : Int) + 10)), l5, l6] [] (zM I2 A2 W2) := by
  have hn := hI.2.1
  have hf := hI.2.2.1
  obtain ⟨I1, A1, W1, I2, A2, W2, k, b, hK, hn1, hf1, hM, hk, hkb, hI2⟩ := QP_look (d := d) (a1 := sv f i 1) (a2 := sv f i 2) (by omega) hI (sv_w f i 1) (sv_w f i 2)
  have ht := m_thrown (d := d + 1) (I := I2) (A := A2) (W := W2) (by omega)
  rw [hk] at ht
  have ec : zI 23 = (23 : Int32) := rfl
  rw [ec, k_L_law__40_c23]
  rcases hkb with ⟨rfl, hb⟩ | rfl | rfl
  · refine ⟨I2, A2, W2, .int (zI 0), .int (zI b), hI2, ?_⟩
    simp (implicitDefEqProofs := false) (disch := omega) only [↓rI_s, ↓rV_s, ↓rI_e, ↓rV_e, zc_eq, zc_ne, zc_lt, zc_ge, zc_gt, zc_le, zlt_t, zlt_f, zle_t, zle_f, zeq_t, zeq_f, lz, zadd, zsub, zmul, zneg, zb_e0, zb_e1, boo0, boo1, ua_s, ua_n, ua_ua, up_s, u2_s, u2_f, u2_c, u2_u2, Int.natCast_add, Int.zero_add, Int.add_zero, ↓reduceIte, ne_eq, not_true_eq_false, not_false_eq_true, Int.natCast_one, ↓zsc_1 hn hf hi hb5, ↓zsc_2 hn hf hi hb5, ↓cI hK, ↓zsc_1 hn1 hf1 hi hb5, ↓zsc_2 hn1 hf1 hi hb5, ↓mc_59, ↓cI hM, ↓cI ht, ↓z89_l, hb, lg_self, ↓k_L_law__1749, ↓k_L_law__2420]
  · refine ⟨I2, A2, W2, .int (zI 1), .int (zI b), hI2, ?_⟩
    simp (implicitDefEqProofs := false) (disch := omega) only [↓rI_s, ↓rV_s, ↓rI_e, ↓rV_e, zc_eq, zc_ne, zc_lt, zc_ge, zc_gt, zc_le, zlt_t, zlt_f, zle_t, zle_f, zeq_t, zeq_f, lz, zadd, zsub, zmul, zneg, zb_e0, zb_e1, boo0, boo1, ua_s, ua_n, ua_ua, up_s, u2_s, u2_f, u2_c, u2_u2, Int.natCast_add, Int.zero_add, Int.add_zero, ↓reduceIte, ne_eq, not_true_eq_false, not_false_eq_true, Int.natCast_one, ↓zsc_1 hn hf hi hb5, ↓zsc_2 hn hf hi hb5, ↓cI hK, ↓zsc_1 hn1 hf1 hi hb5, ↓zsc_2 hn1 hf1 hi hb5, ↓mc_59, ↓cI hM, ↓cI ht, ↓k_L_law__1749, ↓k_L_law__2420]
  · refine ⟨I2, A2, W2, .int (zI 2), .int (zI b), hI2, ?_⟩
    simp (implicitDefEqProofs := false) (disch := omega) only [↓rI_s, ↓rV_s, ↓rI_e, ↓rV_e, zc_eq, zc_ne, zc_lt, zc_ge, zc_gt, zc_le, zlt_t, zlt_f, zle_t, zle_f, zeq_t, zeq_f, lz, zadd, zsub, zmul, zneg, zb_e0, zb_e1, boo0, boo1, ua_s, ua_n, ua_ua, up_s, u2_s, u2_f, u2_c, u2_u2, Int.natCast_add, Int.zero_add, Int.add_zero, ↓reduceIte, ne_eq, not_true_eq_false, not_false_eq_true, Int.natCast_one, ↓zsc_1 hn hf hi hb5, ↓zsc_2 hn hf hi hb5, ↓cI hK, ↓zsc_1 hn1 hf1 hi hb5, ↓zsc_2 hn1 hf1 hi hb5, ↓mc_59, ↓cI hM, ↓cI ht, ↓k_L_law__1749, ↓k_L_law__2420]
theorem LS_24 {p5 p6 : Value} (hd : 140 ≤ d) (hI : Ivs c n f I A W) (hi : i + 10 ≤ n) (hb5 : n ≤ 5120) : ∃ I2 A2 W2 l5 l6, Ivs (c + 1) n f I2 A2 W2 ∧ q_run qm_L_law_ (q_call q_MT (d + 1)) 40 [.ref 0, .ref 2, .ref 59, .ref 89, .int (zI i), p5, p6] [.int (zI 24)] (zM I A W) = q_run qm_L_law_ (q_call q_MT (d + 1)) 23 [.ref 0, .ref 2, .ref 59, .ref 89, .int (zI ((i : Int) + 10)), l5, l6] [] (zM I2 A2 W2) := by
  have hn := hI.2.1
  have hf := hI.2.2.1
  obtain ⟨I1, A1, W1, I2, A2, W2, k, b, hK, hn1, hf1, hM, hk, hkb, hI2⟩ := QP_duel (d := d) (a1 := sv f i 1) (a2 := sv f i 2) (a3 := sv f i 3) (by omega) hI (sv_w f i 1) (sv_w f i 2) (sv_w f i 3)
  have ht := m_thrown (d := d + 1) (I := I2) (A := A2) (W := W2) (by omega)
  rw [hk] at ht
  have ec : zI 24 = (24 : Int32) := rfl
  rw [ec, k_L_law__40_c24]
  rcases hkb with ⟨rfl, hb⟩ | rfl | rfl
  · refine ⟨I2, A2, W2, .int (zI 0), .int (zI b), hI2, ?_⟩
    simp (implicitDefEqProofs := false) (disch := omega) only [↓rI_s, ↓rV_s, ↓rI_e, ↓rV_e, zc_eq, zc_ne, zc_lt, zc_ge, zc_gt, zc_le, zlt_t, zlt_f, zle_t, zle_f, zeq_t, zeq_f, lz, zadd, zsub, zmul, zneg, zb_e0, zb_e1, boo0, boo1, ua_s, ua_n, ua_ua, up_s, u2_s, u2_f, u2_c, u2_u2, Int.natCast_add, Int.zero_add, Int.add_zero, ↓reduceIte, ne_eq, not_true_eq_false, not_false_eq_true, Int.natCast_one, ↓zsc_1 hn hf hi hb5, ↓zsc_2 hn hf hi hb5, ↓zsc_3 hn hf hi hb5, ↓cI hK, ↓zsc_1 hn1 hf1 hi hb5, ↓zsc_2 hn1 hf1 hi hb5, ↓zsc_3 hn1 hf1 hi hb5, ↓mc_59, ↓cI hM, ↓cI ht, ↓z89_l, hb, lg_self, ↓k_L_law__1829, ↓k_L_law__2420]
  · refine ⟨I2, A2, W2, .int (zI 1), .int (zI b), hI2, ?_⟩
    simp (implicitDefEqProofs := false) (disch := omega) only [↓rI_s, ↓rV_s, ↓rI_e, ↓rV_e, zc_eq, zc_ne, zc_lt, zc_ge, zc_gt, zc_le, zlt_t, zlt_f, zle_t, zle_f, zeq_t, zeq_f, lz, zadd, zsub, zmul, zneg, zb_e0, zb_e1, boo0, boo1, ua_s, ua_n, ua_ua, up_s, u2_s, u2_f, u2_c, u2_u2, Int.natCast_add, Int.zero_add, Int.add_zero, ↓reduceIte, ne_eq, not_true_eq_false, not_false_eq_true, Int.natCast_one, ↓zsc_1 hn hf hi hb5, ↓zsc_2 hn hf hi hb5, ↓zsc_3 hn hf hi hb5, ↓cI hK, ↓zsc_1 hn1 hf1 hi hb5, ↓zsc_2 hn1 hf1 hi hb5, ↓zsc_3 hn1 hf1 hi hb5, ↓mc_59, ↓cI hM, ↓cI ht, ↓k_L_law__1829, ↓k_L_law__2420]
  · refine ⟨I2, A2, W2, .int (zI 2), .int (zI b), hI2, ?_⟩
    simp (implicitDefEqProofs := false) (disch := omega) only [↓rI_s, ↓rV_s, ↓rI_e, ↓rV_e, zc_eq, zc_ne, zc_lt, zc_ge, zc_gt, zc_le, zlt_t, zlt_f, zle_t, zle_f, zeq_t, zeq_f, lz, zadd, zsub, zmul, zneg, zb_e0, zb_e1, boo0, boo1, ua_s, ua_n, ua_ua, up_s, u2_s, u2_f, u2_c, u2_u2, Int.natCast_add, Int.zero_add, Int.add_zero, ↓reduceIte, ne_eq, not_true_eq_false, not_false_eq_true, Int.natCast_one, ↓zsc_1 hn hf hi hb5, ↓zsc_2 hn hf hi hb5, ↓zsc_3 hn hf hi hb5, ↓cI hK, ↓zsc_1 hn1 hf1 hi hb5, ↓zsc_2 hn1 hf1 hi hb5, ↓zsc_3 hn1 hf1 hi hb5, ↓mc_59, ↓cI hM, ↓cI ht, ↓k_L_law__1829, ↓k_L_law__2420]
theorem LS_25 {p5 p6 : Value} (hd : 140 ≤ d) (hI : Ivs c n f I A W) (hi : i + 10 ≤ n) (hb5 : n ≤ 5120) : ∃ I2 A2 W2 l5 l6, Ivs (c + 1) n f I2 A2 W2 ∧ q_run qm_L_law_ (q_call q_MT (d + 1)) 40 [.ref 0, .ref 2, .ref 59, .ref 89, .int (zI i), p5, p6] [.int (zI 25)] (zM I A W) = q_run qm_L_law_ (q_call q_MT (d + 1)) 23 [.ref 0, .ref 2, .ref 59, .ref 89, .int (zI ((i : Int) + 10)), l5, l6] [] (zM I2 A2 W2) := by
  have hn := hI.2.1
  have hf := hI.2.2.1
  obtain ⟨I1, A1, W1, I2, A2, W2, k, b, hK, hn1, hf1, hM, hk, hkb, hI2⟩ := QP_panic (d := d) (a1 := sv f i 1) (a2 := sv f i 2) (by omega) hI (sv_w f i 1) (sv_w f i 2)
  have ht := m_thrown (d := d + 1) (I := I2) (A := A2) (W := W2) (by omega)
  rw [hk] at ht
  have ec : zI 25 = (25 : Int32) := rfl
  rw [ec, k_L_law__40_c25]
  rcases hkb with ⟨rfl, hb⟩ | rfl | rfl
  · refine ⟨I2, A2, W2, .int (zI 0), .int (zI b), hI2, ?_⟩
    simp (implicitDefEqProofs := false) (disch := omega) only [↓rI_s, ↓rV_s, ↓rI_e, ↓rV_e, zc_eq, zc_ne, zc_lt, zc_ge, zc_gt, zc_le, zlt_t, zlt_f, zle_t, zle_f, zeq_t, zeq_f, lz, zadd, zsub, zmul, zneg, zb_e0, zb_e1, boo0, boo1, ua_s, ua_n, ua_ua, up_s, u2_s, u2_f, u2_c, u2_u2, Int.natCast_add, Int.zero_add, Int.add_zero, ↓reduceIte, ne_eq, not_true_eq_false, not_false_eq_true, Int.natCast_one, ↓zsc_1 hn hf hi hb5, ↓zsc_2 hn hf hi hb5, ↓cI hK, ↓zsc_1 hn1 hf1 hi hb5, ↓zsc_2 hn1 hf1 hi hb5, ↓mc_59, ↓cI hM, ↓cI ht, ↓z89_l, hb, lg_self, ↓k_L_law__1897, ↓k_L_law__2420]
  · refine ⟨I2, A2, W2, .int (zI 1), .int (zI b), hI2, ?_⟩
    simp (implicitDefEqProofs := false) (disch := omega) only [↓rI_s, ↓rV_s, ↓rI_e, ↓rV_e, zc_eq, zc_ne, zc_lt, zc_ge, zc_gt, zc_le, zlt_t, zlt_f, zle_t, zle_f, zeq_t, zeq_f, lz, zadd, zsub, zmul, zneg, zb_e0, zb_e1, boo0, boo1, ua_s, ua_n, ua_ua, up_s, u2_s, u2_f, u2_c, u2_u2, Int.natCast_add, Int.zero_add, Int.add_zero, ↓reduceIte, ne_eq, not_true_eq_false, not_false_eq_true, Int.natCast_one, ↓zsc_1 hn hf hi hb5, ↓zsc_2 hn hf hi hb5, ↓cI hK, ↓zsc_1 hn1 hf1 hi hb5, ↓zsc_2 hn1 hf1 hi hb5, ↓mc_59, ↓cI hM, ↓cI ht, ↓k_L_law__1897, ↓k_L_law__2420]
  · refine ⟨I2, A2, W2, .int (zI 2), .int (zI b), hI2, ?_⟩
    simp (implicitDefEqProofs := false) (disch := omega) only [↓rI_s, ↓rV_s, ↓rI_e, ↓rV_e, zc_eq, zc_ne, zc_lt, zc_ge, zc_gt, zc_le, zlt_t, zlt_f, zle_t, zle_f, zeq_t, zeq_f, lz, zadd, zsub, zmul, zneg, zb_e0, zb_e1, boo0, boo1, ua_s, ua_n, ua_ua, up_s, u2_s, u2_f, u2_c, u2_u2, Int.natCast_add, Int.zero_add, Int.add_zero, ↓reduceIte, ne_eq, not_true_eq_false, not_false_eq_true, Int.natCast_one, ↓zsc_1 hn hf hi hb5, ↓zsc_2 hn hf hi hb5, ↓cI hK, ↓zsc_1 hn1 hf1 hi hb5, ↓zsc_2 hn1 hf1 hi hb5, ↓mc_59, ↓cI hM, ↓cI ht, ↓k_L_law__1897, ↓k_L_law__2420]
theorem LS_26 {p5 p6 : Value} (hd : 140 ≤ d) (hI : Ivs c n f I A W) (hi : i + 10 ≤ n) (hb5 : n ≤ 5120) : ∃ I2 A2 W2 l5 l6, Ivs (c + 1) n f I2 A2 W2 ∧ q_run qm_L_law_ (q_call q_MT (d + 1)) 40 [.ref 0, .ref 2, .ref 59, .ref 89, .int (zI i), p5, p6] [.int (zI 26)] (zM I A W) = q_run qm_L_law_ (q_call q_MT (d + 1)) 23 [.ref 0, .ref 2, .ref 59, .ref 89, .int (zI ((i : Int) + 10)), l5, l6] [] (zM I2 A2 W2) := by
  have hn := hI.2.1
  have hf := hI.2.2.1
  obtain ⟨I1, A1, W1, I2, A2, W2, k, b, hK, hn1, hf1, hM, hk, hkb, hI2⟩ := QP_level (d := d) (a1 := sv f i 1) (a2 := sv f i 2) (by omega) hI (sv_w f i 1) (sv_w f i 2)
  have ht := m_thrown (d := d + 1) (I := I2) (A := A2) (W := W2) (by omega)
  rw [hk] at ht
  have ec : zI 26 = (26 : Int32) := rfl
  rw [ec, k_L_law__40_c26]
  rcases hkb with ⟨rfl, hb⟩ | rfl | rfl
  · refine ⟨I2, A2, W2, .int (zI 0), .int (zI b), hI2, ?_⟩
    simp (implicitDefEqProofs := false) (disch := omega) only [↓rI_s, ↓rV_s, ↓rI_e, ↓rV_e, zc_eq, zc_ne, zc_lt, zc_ge, zc_gt, zc_le, zlt_t, zlt_f, zle_t, zle_f, zeq_t, zeq_f, lz, zadd, zsub, zmul, zneg, zb_e0, zb_e1, boo0, boo1, ua_s, ua_n, ua_ua, up_s, u2_s, u2_f, u2_c, u2_u2, Int.natCast_add, Int.zero_add, Int.add_zero, ↓reduceIte, ne_eq, not_true_eq_false, not_false_eq_true, Int.natCast_one, ↓zsc_1 hn hf hi hb5, ↓zsc_2 hn hf hi hb5, ↓cI hK, ↓zsc_1 hn1 hf1 hi hb5, ↓zsc_2 hn1 hf1 hi hb5, ↓mc_59, ↓cI hM, ↓cI ht, ↓z89_l, hb, lg_self, ↓k_L_law__1965, ↓k_L_law__2420]
  · refine ⟨I2, A2, W2, .int (zI 1), .int (zI b), hI2, ?_⟩
    simp (implicitDefEqProofs := false) (disch := omega) only [↓rI_s, ↓rV_s, ↓rI_e, ↓rV_e, zc_eq, zc_ne, zc_lt, zc_ge, zc_gt, zc_le, zlt_t, zlt_f, zle_t, zle_f, zeq_t, zeq_f, lz, zadd, zsub, zmul, zneg, zb_e0, zb_e1, boo0, boo1, ua_s, ua_n, ua_ua, up_s, u2_s, u2_f, u2_c, u2_u2, Int.natCast_add, Int.zero_add, Int.add_zero, ↓reduceIte, ne_eq, not_true_eq_false, not_false_eq_true, Int.natCast_one, ↓zsc_1 hn hf hi hb5, ↓zsc_2 hn hf hi hb5, ↓cI hK, ↓zsc_1 hn1 hf1 hi hb5, ↓zsc_2 hn1 hf1 hi hb5, ↓mc_59, ↓cI hM, ↓cI ht, ↓k_L_law__1965, ↓k_L_law__2420]
  · refine ⟨I2, A2, W2, .int (zI 2), .int (zI b), hI2, ?_⟩
    simp (implicitDefEqProofs := false) (disch := omega) only [↓rI_s, ↓rV_s, ↓rI_e, ↓rV_e, zc_eq, zc_ne, zc_lt, zc_ge, zc_gt, zc_le, zlt_t, zlt_f, zle_t, zle_f, zeq_t, zeq_f, lz, zadd, zsub, zmul, zneg, zb_e0, zb_e1, boo0, boo1, ua_s, ua_n, ua_ua, up_s, u2_s, u2_f, u2_c, u2_u2, Int.natCast_add, Int.zero_add, Int.add_zero, ↓reduceIte, ne_eq, not_true_eq_false, not_false_eq_true, Int.natCast_one, ↓zsc_1 hn hf hi hb5, ↓zsc_2 hn hf hi hb5, ↓cI hK, ↓zsc_1 hn1 hf1 hi hb5, ↓zsc_2 hn1 hf1 hi hb5, ↓mc_59, ↓cI hM, ↓cI ht, ↓k_L_law__1965, ↓k_L_law__2420]
theorem LS_27 {p5 p6 : Value} (hd : 140 ≤ d) (hI : Ivs c n f I A W) (hi : i + 10 ≤ n) (hb5 : n ≤ 5120) : ∃ I2 A2 W2 l5 l6, Ivs (c + 1) n f I2 A2 W2 ∧ q_run qm_L_law_ (q_call q_MT (d + 1)) 40 [.ref 0, .ref 2, .ref 59, .ref 89, .int (zI i), p5, p6] [.int (zI 27)] (zM I A W) = q_run qm_L_law_ (q_call q_MT (d + 1)) 23 [.ref 0, .ref 2, .ref 59, .ref 89, .int (zI ((i : Int) + 10)), l5, l6] [] (zM I2 A2 W2) := by
  have hn := hI.2.1
  have hf := hI.2.2.1
  obtain ⟨I1, A1, W1, I2, A2, W2, k, b, hK, hn1, hf1, hM, hk, hkb, hI2⟩ := QP_trust (d := d) (a1 := sv f i 1) (by omega) hI (sv_w f i 1)
  have ht := m_thrown (d := d + 1) (I := I2) (A := A2) (W := W2) (by omega)
  rw [hk] at ht
  have ec : zI 27 = (27 : Int32) := rfl
  rw [ec, k_L_law__40_c27]
  rcases hkb with ⟨rfl, hb⟩ | rfl | rfl
  · refine ⟨I2, A2, W2, .int (zI 0), .int (zI b), hI2, ?_⟩
    simp (implicitDefEqProofs := false) (disch := omega) only [↓rI_s, ↓rV_s, ↓rI_e, ↓rV_e, zc_eq, zc_ne, zc_lt, zc_ge, zc_gt, zc_le, zlt_t, zlt_f, zle_t, zle_f, zeq_t, zeq_f, lz, zadd, zsub, zmul, zneg, zb_e0, zb_e1, boo0, boo1, ua_s, ua_n, ua_ua, up_s, u2_s, u2_f, u2_c, u2_u2, Int.natCast_add, Int.zero_add, Int.add_zero, ↓reduceIte, ne_eq, not_true_eq_false, not_false_eq_true, Int.natCast_one, ↓zsc_1 hn hf hi hb5, ↓cI hK, ↓zsc_1 hn1 hf1 hi hb5, ↓mc_59, ↓cI hM, ↓cI ht, ↓z89_l, hb, lg_self, ↓k_L_law__2021, ↓k_L_law__2420]
  · refine ⟨I2, A2, W2, .int (zI 1), .int (zI b), hI2, ?_⟩
    simp (implicitDefEqProofs := false) (disch := omega) only [↓rI_s, ↓rV_s, ↓rI_e, ↓rV_e, zc_eq, zc_ne, zc_lt, zc_ge, zc_gt, zc_le, zlt_t, zlt_f, zle_t, zle_f, zeq_t, zeq_f, lz, zadd, zsub, zmul, zneg, zb_e0, zb_e1, boo0, boo1, ua_s, ua_n, ua_ua, up_s, u2_s, u2_f, u2_c, u2_u2, Int.natCast_add, Int.zero_add, Int.add_zero, ↓reduceIte, ne_eq, not_true_eq_false, not_false_eq_true, Int.natCast_one, ↓zsc_1 hn hf hi hb5, ↓cI hK, ↓zsc_1 hn1 hf1 hi hb5, ↓mc_59, ↓cI hM, ↓cI ht, ↓k_L_law__2021, ↓k_L_law__2420]
  · refine ⟨I2, A2, W2, .int (zI 2), .int (zI b), hI2, ?_⟩
    simp (implicitDefEqProofs := false) (disch := omega) only [↓rI_s, ↓rV_s, ↓rI_e, ↓rV_e, zc_eq, zc_ne, zc_lt, zc_ge, zc_gt, zc_le, zlt_t, zlt_f, zle_t, zle_f, zeq_t, zeq_f, lz, zadd, zsub, zmul, zneg, zb_e0, zb_e1, boo0, boo1, ua_s, ua_n, ua_ua, up_s, u2_s, u2_f, u2_c, u2_u2, Int.natCast_add, Int.zero_add, Int.add_zero, ↓reduceIte, ne_eq, not_true_eq_false, not_false_eq_true, Int.natCast_one, ↓zsc_1 hn hf hi hb5, ↓cI hK, ↓zsc_1 hn1 hf1 hi hb5, ↓mc_59, ↓cI hM, ↓cI ht, ↓k_L_law__2021, ↓k_L_law__2420]
theorem LS_28 {p5 p6 : Value} (hd : 140 ≤ d) (hI : Ivs c n f I A W) (hi : i + 10 ≤ n) (hb5 : n ≤ 5120) : ∃ I2 A2 W2 l5 l6, Ivs (c + 1) n f I2 A2 W2 ∧ q_run qm_L_law_ (q_call q_MT (d + 1)) 40 [.ref 0, .ref 2, .ref 59, .ref 89, .int (zI i), p5, p6] [.int (zI 28)] (zM I A W) = q_run qm_L_law_ (q_call q_MT (d + 1)) 23 [.ref 0, .ref 2, .ref 59, .ref 89, .int (zI ((i : Int) + 10)), l5, l6] [] (zM I2 A2 W2) := by
  have hn := hI.2.1
  have hf := hI.2.2.1
  obtain ⟨I1, A1, W1, I2, A2, W2, k, b, hK, hn1, hf1, hM, hk, hkb, hI2⟩ := QP_richest (d := d) (a1 := sv f i 1) (by omega) hI (sv_w f i 1)
  have ht := m_thrown (d := d + 1) (I := I2) (A := A2) (W := W2) (by omega)
  rw [hk] at ht
  have ec : zI 28 = (28 : Int32) := rfl
  rw [ec, k_L_law__40_c28]
  rcases hkb with ⟨rfl, hb⟩ | rfl | rfl
  · refine ⟨I2, A2, W2, .int (zI 0), .int (zI b), hI2, ?_⟩
    simp (implicitDefEqProofs := false) (disch := omega) only [↓rI_s, ↓rV_s, ↓rI_e, ↓rV_e, zc_eq, zc_ne, zc_lt, zc_ge, zc_gt, zc_le, zlt_t, zlt_f, zle_t, zle_f, zeq_t, zeq_f, lz, zadd, zsub, zmul, zneg, zb_e0, zb_e1, boo0, boo1, ua_s, ua_n, ua_ua, up_s, u2_s, u2_f, u2_c, u2_u2, Int.natCast_add, Int.zero_add, Int.add_zero, ↓reduceIte, ne_eq, not_true_eq_false, not_false_eq_true, Int.natCast_one, ↓zsc_1 hn hf hi hb5, ↓cI hK, ↓zsc_1 hn1 hf1 hi hb5, ↓mc_59, ↓cI hM, ↓cI ht, ↓z89_l, hb, lg_self, ↓k_L_law__2077, ↓k_L_law__2420]
  · refine ⟨I2, A2, W2, .int (zI 1), .int (zI b), hI2, ?_⟩
    simp (implicitDefEqProofs := false) (disch := omega) only [↓rI_s, ↓rV_s, ↓rI_e, ↓rV_e, zc_eq, zc_ne, zc_lt, zc_ge, zc_gt, zc_le, zlt_t, zlt_f, zle_t, zle_f, zeq_t, zeq_f, lz, zadd, zsub, zmul, zneg, zb_e0, zb_e1, boo0, boo1, ua_s, ua_n, ua_ua, up_s, u2_s, u2_f, u2_c, u2_u2, Int.natCast_add, Int.zero_add, Int.add_zero, ↓reduceIte, ne_eq, not_true_eq_false, not_false_eq_true, Int.natCast_one, ↓zsc_1 hn hf hi hb5, ↓cI hK, ↓zsc_1 hn1 hf1 hi hb5, ↓mc_59, ↓cI hM, ↓cI ht, ↓k_L_law__2077, ↓k_L_law__2420]
  · refine ⟨I2, A2, W2, .int (zI 2), .int (zI b), hI2, ?_⟩
    simp (implicitDefEqProofs := false) (disch := omega) only [↓rI_s, ↓rV_s, ↓rI_e, ↓rV_e, zc_eq, zc_ne, zc_lt, zc_ge, zc_gt, zc_le, zlt_t, zlt_f, zle_t, zle_f, zeq_t, zeq_f, lz, zadd, zsub, zmul, zneg, zb_e0, zb_e1, boo0, boo1, ua_s, ua_n, ua_ua, up_s, u2_s, u2_f, u2_c, u2_u2, Int.natCast_add, Int.zero_add, Int.add_zero, ↓reduceIte, ne_eq, not_true_eq_false, not_false_eq_true, Int.natCast_one, ↓zsc_1 hn hf hi hb5, ↓cI hK, ↓zsc_1 hn1 hf1 hi hb5, ↓mc_59, ↓cI hM, ↓cI ht, ↓k_L_law__2077, ↓k_L_law__2420]
theorem LS_29 {p5 p6 : Value} (hd : 140 ≤ d) (hI : Ivs c n f I A W) (hi : i + 10 ≤ n) (hb5 : n ≤ 5120) : ∃ I2 A2 W2 l5 l6, Ivs (c + 1) n f I2 A2 W2 ∧ q_run qm_L_law_ (q_call q_MT (d + 1)) 40 [.ref 0, .ref 2, .ref 59, .ref 89, .int (zI i), p5, p6] [.int (zI 29)] (zM I A W) = q_run qm_L_law_ (q_call q_MT (d + 1)) 23 [.ref 0, .ref 2, .ref 59, .ref 89, .int (zI ((i : Int) + 10)), l5, l6] [] (zM I2 A2 W2) := by
  have hn := hI.2.1
  have hf := hI.2.2.1
  obtain ⟨I1, A1, W1, I2, A2, W2, k, b, hK, hn1, hf1, hM, hk, hkb, hI2⟩ := QP_ahead (d := d) (a1 := sv f i 1) (a2 := sv f i 2) (by omega) hI (sv_w f i 1) (sv_w f i 2)
  have ht := m_thrown (d := d + 1) (I := I2) (A := A2) (W := W2) (by omega)
  rw [hk] at ht
  have ec : zI 29 = (29 : Int32) := rfl
  rw [ec, k_L_law__40_c29]
  rcases hkb with ⟨rfl, hb⟩ | rfl | rfl
  · refine ⟨I2, A2, W2, .int (zI 0), .int (zI b), hI2, ?_⟩
    simp (implicitDefEqProofs := false) (disch := omega) only [↓rI_s, ↓rV_s, ↓rI_e, ↓rV_e, zc_eq, zc_ne, zc_lt, zc_ge, zc_gt, zc_le, zlt_t, zlt_f, zle_t, zle_f, zeq_t, zeq_f, lz, zadd, zsub, zmul, zneg, zb_e0, zb_e1, boo0, boo1, ua_s, ua_n, ua_ua, up_s, u2_s, u2_f, u2_c, u2_u2, Int.natCast_add, Int.zero_add, Int.add_zero, ↓reduceIte, ne_eq, not_true_eq_false, not_false_eq_true, Int.natCast_one, ↓zsc_1 hn hf hi hb5, ↓zsc_2 hn hf hi hb5, ↓cI hK, ↓zsc_1 hn1 hf1 hi hb5, ↓zsc_2 hn1 hf1 hi hb5, ↓mc_59, ↓cI hM, ↓cI ht, ↓z89_l, hb, lg_self, ↓k_L_law__2145, ↓k_L_law__2420]
  · refine ⟨I2, A2, W2, .int (zI 1), .int (zI b), hI2, ?_⟩
    simp (implicitDefEqProofs := false) (disch := omega) only [↓rI_s, ↓rV_s, ↓rI_e, ↓rV_e, zc_eq, zc_ne, zc_lt, zc_ge, zc_gt, zc_le, zlt_t, zlt_f, zle_t, zle_f, zeq_t, zeq_f, lz, zadd, zsub, zmul, zneg, zb_e0, zb_e1, boo0, boo1, ua_s, ua_n, ua_ua, up_s, u2_s, u2_f, u2_c, u2_u2, Int.natCast_add, Int.zero_add, Int.add_zero, ↓reduceIte, ne_eq, not_true_eq_false, not_false_eq_true, Int.natCast_one, ↓zsc_1 hn hf hi hb5, ↓zsc_2 hn hf hi hb5, ↓cI hK, ↓zsc_1 hn1 hf1 hi hb5, ↓zsc_2 hn1 hf1 hi hb5, ↓mc_59, ↓cI hM, ↓cI ht, ↓k_L_law__2145, ↓k_L_law__2420]
  · refine ⟨I2, A2, W2, .int (zI 2), .int (zI b), hI2, ?_⟩
    simp (implicitDefEqProofs := false) (disch := omega) only [↓rI_s, ↓rV_s, ↓rI_e, ↓rV_e, zc_eq, zc_ne, zc_lt, zc_ge, zc_gt, zc_le, zlt_t, zlt_f, zle_t, zle_f, zeq_t, zeq_f, lz, zadd, zsub, zmul, zneg, zb_e0, zb_e1, boo0, boo1, ua_s, ua_n, ua_ua, up_s, u2_s, u2_f, u2_c, u2_u2, Int.natCast_add, Int.zero_add, Int.add_zero, ↓reduceIte, ne_eq, not_true_eq_false, not_false_eq_true, Int.natCast_one, ↓zsc_1 hn hf hi hb5, ↓zsc_2 hn hf hi hb5, ↓cI hK, ↓zsc_1 hn1 hf1 hi hb5, ↓zsc_2 hn1 hf1 hi hb5, ↓mc_59, ↓cI hM, ↓cI ht, ↓k_L_law__2145, ↓k_L_law__2420]
theorem LS_30 {p5 p6 : Value} (hd : 140 ≤ d) (hI : Ivs c n f I A W) (hi : i + 10 ≤ n) (hb5 : n ≤ 5120) : ∃ I2 A2 W2 l5 l6, Ivs (c + 1) n f I2 A2 W2 ∧ q_run qm_L_law_ (q_call q_MT (d + 1)) 40 [.ref 0, .ref 2, .ref 59, .ref 89, .int (zI i), p5, p6] [.int (zI 30)] (zM I A W) = q_run qm_L_law_ (q_call q_MT (d + 1)) 23 [.ref 0, .ref 2, .ref 59, .ref 89, .int (zI ((i : Int) + 10)), l5, l6] [] (zM I2 A2 W2) := by
  have hn := hI.2.1
  have hf := hI.2.2.1
  obtain ⟨I1, A1, W1, I2, A2, W2, k, b, hK, hn1, hf1, hM, hk, hkb, hI2⟩ := QP_season (d := d) (a1 := sv f i 1) (a2 := sv f i 2) (a3 := sv f i 3) (a4 := sv f i 4) (by omega) hI (sv_w f i 1) (sv_w f i 2) (sv_w f i 3) (sv_w f i 4)
  have ht := m_thrown (d := d + 1) (I := I2) (A := A2) (W := W2) (by omega)
  rw [hk] at ht
  have ec : zI 30 = (30 : Int32) := rfl
  rw [ec, k_L_law__40_c30]
  rcases hkb with ⟨rfl, hb⟩ | rfl | rfl
  · refine ⟨I2, A2, W2, .int (zI 0), .int (zI b), hI2, ?_⟩
    simp (implicitDefEqProofs := false) (disch := omega) only [↓rI_s, ↓rV_s, ↓rI_e, ↓rV_e, zc_eq, zc_ne, zc_lt, zc_ge, zc_gt, zc_le, zlt_t, zlt_f, zle_t, zle_f, zeq_t, zeq_f, lz, zadd, zsub, zmul, zneg, zb_e0, zb_e1, boo0, boo1, ua_s, ua_n, ua_ua, up_s, u2_s, u2_f, u2_c, u2_u2, Int.natCast_add, Int.zero_add, Int.add_zero, ↓reduceIte, ne_eq, not_true_eq_false, not_false_eq_true, Int.natCast_one, ↓zsc_1 hn hf hi hb5, ↓zsc_2 hn hf hi hb5, ↓zsc_3 hn hf hi hb5, ↓zsc_4 hn hf hi hb5, ↓cI hK, ↓zsc_1 hn1 hf1 hi hb5, ↓zsc_2 hn1 hf1 hi hb5, ↓zsc_3 hn1 hf1 hi hb5, ↓zsc_4 hn1 hf1 hi hb5, ↓mc_59, ↓cI hM, ↓cI ht, ↓z89_l, hb, lg_self, ↓k_L_law__2237, ↓k_L_law__2420]
  · refine ⟨I2, A2, W2, .int (zI 1), .int (zI b), hI2, ?_⟩
    simp (implicitDefEqProofs := false) (disch := omega) only [↓rI_s, ↓rV_s, ↓rI_e, ↓rV_e, zc_eq, zc_ne, zc_lt, zc_ge, zc_gt, zc_le, zlt_t, zlt_f, zle_t, zle_f, zeq_t, zeq_f, lz, zadd, zsub, zmul, zneg, zb_e0, zb_e1, boo0, boo1, ua_s, ua_n, ua_ua, up_s, u2_s, u2_f, u2_c, u2_u2, Int.natCast_add, Int.zero_add, Int.add_zero, ↓reduceIte, ne_eq, not_true_eq_false, not_false_eq_true, Int.natCast_one, ↓zsc_1 hn hf hi hb5, ↓zsc_2 hn hf hi hb5, ↓zsc_3 hn hf hi hb5, ↓zsc_4 hn hf hi hb5, ↓cI hK, ↓zsc_1 hn1 hf1 hi hb5, ↓zsc_2 hn1 hf1 hi hb5, ↓zsc_3 hn1 hf1 hi hb5, ↓zsc_4 hn1 hf1 hi hb5, ↓mc_59, ↓cI hM, ↓cI ht, ↓k_L_law__2237, ↓k_L_law__2420]
  · refine ⟨I2, A2, W2, .int (zI 2), .int (zI b), hI2, ?_⟩
    simp (implicitDefEqProofs := false) (disch := omega) only [↓rI_s, ↓rV_s, ↓rI_e, ↓rV_e, zc_eq, zc_ne, zc_lt, zc_ge, zc_gt, zc_le, zlt_t, zlt_f, zle_t, zle_f, zeq_t, zeq_f, lz, zadd, zsub, zmul, zneg, zb_e0, zb_e1, boo0, boo1, ua_s, ua_n, ua_ua, up_s, u2_s, u2_f, u2_c, u2_u2, Int.natCast_add, Int.zero_add, Int.add_zero, ↓reduceIte, ne_eq, not_true_eq_false, not_false_eq_true, Int.natCast_one, ↓zsc_1 hn hf hi hb5, ↓zsc_2 hn hf hi hb5, ↓zsc_3 hn hf hi hb5, ↓zsc_4 hn hf hi hb5, ↓cI hK, ↓zsc_1 hn1 hf1 hi hb5, ↓zsc_2 hn1 hf1 hi hb5, ↓zsc_3 hn1 hf1 hi hb5, ↓zsc_4 hn1 hf1 hi hb5, ↓mc_59, ↓cI hM, ↓cI ht, ↓k_L_law__2237, ↓k_L_law__2420]
theorem LS_31 {p5 p6 : Value} (hd : 140 ≤ d) (hI : Ivs c n f I A W) (hi : i + 10 ≤ n) (hb5 : n ≤ 5120) : ∃ I2 A2 W2 l5 l6, Ivs (c + 1) n f I2 A2 W2 ∧ q_run qm_L_law_ (q_call q_MT (d + 1)) 40 [.ref 0, .ref 2, .ref 59, .ref 89, .int (zI i), p5, p6] [.int (zI 31)] (zM I A W) = q_run qm_L_law_ (q_call q_MT (d + 1)) 23 [.ref 0, .ref 2, .ref 59, .ref 89, .int (zI ((i : Int) + 10)), l5, l6] [] (zM I2 A2 W2) := by
  have hn := hI.2.1
  have hf := hI.2.2.1
  obtain ⟨I1, A1, W1, I2, A2, W2, k, b, hK, hn1, hf1, hM, hk, hkb, hI2⟩ := QP_span (d := d) (a1 := sv f i 1) (a2 := sv f i 2) (a3 := sv f i 3) (a4 := sv f i 4) (a5 := sv f i 5) (by omega) hI (sv_w f i 1) (sv_w f i 2) (sv_w f i 3) (sv_w f i 4) (sv_w f i 5)
  have ht := m_thrown (d := d + 1) (I := I2) (A := A2) (W := W2) (by omega)
  rw [hk] at ht
  have ec : zI 31 = (31 : Int32) := rfl
  rw [ec, k_L_law__40_c31]
  rcases hkb with ⟨rfl, hb⟩ | rfl | rfl
  · refine ⟨I2, A2, W2, .int (zI 0), .int (zI b), hI2, ?_⟩
    simp (implicitDefEqProofs := false) (disch := omega) only [↓rI_s, ↓rV_s, ↓rI_e, ↓rV_e, zc_eq, zc_ne, zc_lt, zc_ge, zc_gt, zc_le, zlt_t, zlt_f, zle_t, zle_f, zeq_t, zeq_f, lz, zadd, zsub, zmul, zneg, zb_e0, zb_e1, boo0, boo1, ua_s, ua_n, ua_ua, up_s, u2_s, u2_f, u2_c, u2_u2, Int.natCast_add, Int.zero_add, Int.add_zero, ↓reduceIte, ne_eq, not_true_eq_false, not_false_eq_true, Int.natCast_one, ↓zsc_1 hn hf hi hb5, ↓zsc_2 hn hf hi hb5, ↓zsc_3 hn hf hi hb5, ↓zsc_4 hn hf hi hb5, ↓zsc_5 hn hf hi hb5, ↓cI hK, ↓zsc_1 hn1 hf1 hi hb5, ↓zsc_2 hn1 hf1 hi hb5, ↓zsc_3 hn1 hf1 hi hb5, ↓zsc_4 hn1 hf1 hi hb5, ↓zsc_5 hn1 hf1 hi hb5, ↓mc_59, ↓cI hM, ↓cI ht, ↓z89_l, hb, lg_self, ↓k_L_law__2341, ↓k_L_law__2420]
  · refine ⟨I2, A2, W2, .int (zI 1), .int (zI b), hI2, ?_⟩
    simp (implicitDefEqProofs := false) (disch := omega) only [↓rI_s, ↓rV_s, ↓rI_e, ↓rV_e, zc_eq, zc_ne, zc_lt, zc_ge, zc_gt, zc_le, zlt_t, zlt_f, zle_t, zle_f, zeq_t, zeq_f, lz, zadd, zsub, zmul, zneg, zb_e0, zb_e1, boo0, boo1, ua_s, ua_n, ua_ua, up_s, u2_s, u2_f, u2_c, u2_u2, Int.natCast_add, Int.zero_add, Int.add_zero, ↓reduceIte, ne_eq, not_true_eq_false, not_false_eq_true, Int.natCast_one, ↓zsc_1 hn hf hi hb5, ↓zsc_2 hn hf hi hb5, ↓zsc_3 hn hf hi hb5, ↓zsc_4 hn hf hi hb5, ↓zsc_5 hn hf hi hb5, ↓cI hK, ↓zsc_1 hn1 hf1 hi hb5, ↓zsc_2 hn1 hf1 hi hb5, ↓zsc_3 hn1 hf1 hi hb5, ↓zsc_4 hn1 hf1 hi hb5, ↓zsc_5 hn1 hf1 hi hb5, ↓mc_59, ↓cI hM, ↓cI ht, ↓k_L_law__2341, ↓k_L_law__2420]
  · refine ⟨I2, A2, W2, .int (zI 2), .int (zI b), hI2, ?_⟩
    simp (implicitDefEqProofs := false) (disch := omega) only [↓rI_s, ↓rV_s, ↓rI_e, ↓rV_e, zc_eq, zc_ne, zc_lt, zc_ge, zc_gt, zc_le, zlt_t, zlt_f, zle_t, zle_f, zeq_t, zeq_f, lz, zadd, zsub, zmul, zneg, zb_e0, zb_e1, boo0, boo1, ua_s, ua_n, ua_ua, up_s, u2_s, u2_f, u2_c, u2_u2, Int.natCast_add, Int.zero_add, Int.add_zero, ↓reduceIte, ne_eq, not_true_eq_false, not_false_eq_true, Int.natCast_one, ↓zsc_1 hn hf hi hb5, ↓zsc_2 hn hf hi hb5, ↓zsc_3 hn hf hi hb5, ↓zsc_4 hn hf hi hb5, ↓zsc_5 hn hf hi hb5, ↓cI hK, ↓zsc_1 hn1 hf1 hi hb5, ↓zsc_2 hn1 hf1 hi hb5, ↓zsc_3 hn1 hf1 hi hb5, ↓zsc_4 hn1 hf1 hi hb5, ↓zsc_5 hn1 hf1 hi hb5, ↓mc_59, ↓cI hM, ↓cI ht, ↓k_L_law__2341, ↓k_L_law__2420]
theorem LS_32 {p5 p6 : Value} (hd : 140 ≤ d) (hI : Ivs c n f I A W) (hi : i + 10 ≤ n) (hb5 : n ≤ 5120) : ∃ I2 A2 W2 l5 l6, Ivs (c + 1) n f I2 A2 W2 ∧ q_run qm_L_law_ (q_call q_MT (d + 1)) 40 [.ref 0, .ref 2, .ref 59, .ref 89, .int (zI i), p5, p6] [.int (zI 32)] (zM I A W) = q_run qm_L_law_ (q_call q_MT (d + 1)) 23 [.ref 0, .ref 2, .ref 59, .ref 89, .int (zI ((i : Int) + 10)), l5, l6] [] (zM I2 A2 W2) := by
  have hn := hI.2.1
  have hf := hI.2.2.1
  obtain ⟨I1, A1, W1, I2, A2, W2, b, hK, hn1, hf1, hM, hI2⟩ := DP_image (d := d + 1)  (by omega) hI 
  have ec : zI 32 = (32 : Int32) := rfl
  rw [ec, k_L_law__40_c32]
  refine ⟨I2, A2, W2, p5, p6, hI2, ?_⟩
  simp (implicitDefEqProofs := false) (disch := omega) only [↓rI_s, ↓rV_s, ↓rI_e, ↓rV_e, zc_eq, zc_ne, zc_lt, zc_ge, zc_gt, zc_le, zlt_t, zlt_f, zle_t, zle_f, zeq_t, zeq_f, lz, zadd, zsub, zmul, zneg, zb_e0, zb_e1, boo0, boo1, ua_s, ua_n, ua_ua, up_s, u2_s, u2_f, u2_c, u2_u2, Int.natCast_add, Int.zero_add, Int.add_zero, ↓reduceIte, ne_eq, not_true_eq_false, not_false_eq_true, Int.natCast_one, ↓mc_2, ↓cI hK, ↓mc_59, ↓cI hM, ↓k_L_law__2420]
theorem LS_33 {p5 p6 : Value} (hd : 140 ≤ d) (hI : Ivs c n f I A W) (hi : i + 10 ≤ n) (hb5 : n ≤ 5120) : ∃ I2 A2 W2 l5 l6, Ivs (c + 1) n f I2 A2 W2 ∧ q_run qm_L_law_ (q_call q_MT (d + 1)) 40 [.ref 0, .ref 2, .ref 59, .ref 89, .int (zI i), p5, p6] [.int (zI 33)] (zM I A W) = q_run qm_L_law_ (q_call q_MT (d + 1)) 23 [.ref 0, .ref 2, .ref 59, .ref 89, .int (zI ((i : Int) + 10)), l5, l6] [] (zM I2 A2 W2) := by
  have hn := hI.2.1
  have hf := hI.2.2.1
  obtain ⟨I1, A1, W1, I2, A2, W2, b, hK, hn1, hf1, hM, hI2⟩ := DP_restore (d := d + 1)  (by omega) hI 
  have ec : zI 33 = (33 : Int32) := rfl
  rw [ec, k_L_law__40_c33]
  refine ⟨I2, A2, W2, p5, p6, hI2, ?_⟩
  simp (implicitDefEqProofs := false) (disch := omega) only [↓rI_s, ↓rV_s, ↓rI_e, ↓rV_e, zc_eq, zc_ne, zc_lt, zc_ge, zc_gt, zc_le, zlt_t, zlt_f, zle_t, zle_f, zeq_t, zeq_f, lz, zadd, zsub, zmul, zneg, zb_e0, zb_e1, boo0, boo1, ua_s, ua_n, ua_ua, up_s, u2_s, u2_f, u2_c, u2_u2, Int.natCast_add, Int.zero_add, Int.add_zero, ↓reduceIte, ne_eq, not_true_eq_false, not_false_eq_true, Int.natCast_one, ↓mc_2, ↓cI hK, ↓mc_59, ↓cI hM, ↓k_L_law__2420]
theorem LS_34 {p5 p6 : Value} (hd : 140 ≤ d) (hI : Ivs c n f I A W) (hi : i + 10 ≤ n) (hb5 : n ≤ 5120) : ∃ I2 A2 W2 l5 l6, Ivs (c + 1) n f I2 A2 W2 ∧ q_run qm_L_law_ (q_call q_MT (d + 1)) 40 [.ref 0, .ref 2, .ref 59, .ref 89, .int (zI i), p5, p6] [.int (zI 34)] (zM I A W) = q_run qm_L_law_ (q_call q_MT (d + 1)) 23 [.ref 0, .ref 2, .ref 59, .ref 89, .int (zI ((i : Int) + 10)), l5, l6] [] (zM I2 A2 W2) := by
  have hn := hI.2.1
  have hf := hI.2.2.1
  obtain ⟨I1, A1, W1, I2, A2, W2, b, hK, hn1, hf1, hM, hI2⟩ := DP_status (d := d + 1) (a1 := sv f i 1) (by omega) hI (sv_w f i 1)
  have ec : zI 34 = (34 : Int32) := rfl
  rw [ec, k_L_law__40_c34]
  refine ⟨I2, A2, W2, p5, p6, hI2, ?_⟩
  simp (implicitDefEqProofs := false) (disch := omega) only [↓rI_s, ↓rV_s, ↓rI_e, ↓rV_e, zc_eq, zc_ne, zc_lt, zc_ge, zc_gt, zc_le, zlt_t, zlt_f, zle_t, zle_f, zeq_t, zeq_f, lz, zadd, zsub, zmul, zneg, zb_e0, zb_e1, boo0, boo1, ua_s, ua_n, ua_ua, up_s, u2_s, u2_f, u2_c, u2_u2, Int.natCast_add, Int.zero_add, Int.add_zero, ↓reduceIte, ne_eq, not_true_eq_false, not_false_eq_true, Int.natCast_one, ↓zsc_1 hn hf hi hb5, ↓mc_2, ↓cI hK, ↓zsc_1 hn1 hf1 hi hb5, ↓mc_59, ↓cI hM, ↓k_L_law__2420]
theorem LS_35 {p5 p6 : Value} (hd : 140 ≤ d) (hI : Ivs c n f I A W) (hi : i + 10 ≤ n) (hb5 : n ≤ 5120) : ∃ I2 A2 W2 l5 l6, Ivs (c + 1) n f I2 A2 W2 ∧ q_run qm_L_law_ (q_call q_MT (d + 1)) 40 [.ref 0, .ref 2, .ref 59, .ref 89, .int (zI i), p5, p6] [.int (zI 35)] (zM I A W) = q_run qm_L_law_ (q_call q_MT (d + 1)) 23 [.ref 0, .ref 2, .ref 59, .ref 89, .int (zI ((i : Int) + 10)), l5, l6] [] (zM I2 A2 W2) := by
  have hn := hI.2.1
  have hf := hI.2.2.1
  obtain ⟨I1, A1, W1, I2, A2, W2, b, hK, hn1, hf1, hM, hI2⟩ := DP_count (d := d + 1) (a1 := sv f i 1) (by omega) hI (sv_w f i 1)
  have ec : zI 35 = (35 : Int32) := rfl
  rw [ec, k_L_law__40_c35]
  refine ⟨I2, A2, W2, p5, p6, hI2, ?_⟩
  simp (implicitDefEqProofs := false) (disch := omega) only [↓rI_s, ↓rV_s, ↓rI_e, ↓rV_e, zc_eq, zc_ne, zc_lt, zc_ge, zc_gt, zc_le, zlt_t, zlt_f, zle_t, zle_f, zeq_t, zeq_f, lz, zadd, zsub, zmul, zneg, zb_e0, zb_e1, boo0, boo1, ua_s, ua_n, ua_ua, up_s, u2_s, u2_f, u2_c, u2_u2, Int.natCast_add, Int.zero_add, Int.add_zero, ↓reduceIte, ne_eq, not_true_eq_false, not_false_eq_true, Int.natCast_one, ↓zsc_1 hn hf hi hb5, ↓mc_2, ↓cI hK, ↓zsc_1 hn1 hf1 hi hb5, ↓mc_59, ↓cI hM, ↓k_L_law__2420]
end LS
