--DEPS 73.gain
/-! The trial board. -/
def kR (R : zR) (s g : Int → Int) : Prop := (∀ w : Int, 0 ≤ w → w < rW R → g w = enc (s w) (s (30 + w))) ∧ (∀ w : Int, 0 ≤ w → w < rW R → g (10 + w) = s (10 + w)) ∧ (∀ w : Int, 0 ≤ w → w < rW R → g (20 + w) = s (20 + w)) ∧ (∀ h : Int, 0 ≤ h → h < rH R → g (30 + h) = s (40 + h)) ∧ g 35 = s 45 ∧ g 36 = s 46
theorem uc_in {f g : Int → Int} {sp dp n j : Int} (h0 : dp ≤ j) (h1 : j < dp + n) : uc f g sp dp n j = f (sp + (j - dp)) := if_pos ⟨h0, h1⟩
theorem uc_out {f g : Int → Int} {sp dp n j : Int} (h : j < dp ∨ dp + n ≤ j) : uc f g sp dp n j = g j := if_neg (by omega)
def svR (cl un sh co g : Int → Int) (dy dm : Int) : Int → Int := up (up (uc co (uc sh (uc un (uc cl g 0 0 10) 0 10 10) 0 20 10) 0 30 5) 35 dy) 36 dm
theorem svR_k {R : zR} {s cl un sh co he g : Int → Int} {dy dm : Int} (hR : wR R) (hB : bR R s cl un sh co he dy dm) : kR R s (svR cl un sh co g dy dm) := by
  have h10 := hR.2.1
  have h5 := hR.1
  obtain ⟨b1, b2, b3, b4, -, b6, b7⟩ := hB
  unfold svR
  refine ⟨fun w w0 w1 => ?_, fun w w0 w1 => ?_, fun w w0 w1 => ?_, fun w w0 w1 => ?_, ?_, ?_⟩
  · rw [up_n (by omega), up_n (by omega), uc_out (by omega), uc_out (by omega), uc_out (by omega), uc_in (by omega) (by omega), show 0 + (w - 0) = w by omega]; exact b1 w w0 w1
  · rw [up_n (by omega), up_n (by omega), uc_out (by omega), uc_out (by omega), uc_in (by omega) (by omega), show 0 + (10 + w - 10) = w by omega]; exact b2 w w0 w1
  · rw [up_n (by omega), up_n (by omega), uc_out (by omega), uc_in (by omega) (by omega), show 0 + (20 + w - 20) = w by omega]; exact b3 w w0 w1
  · rw [up_n (by omega), up_n (by omega), uc_in (by omega) (by omega), show 0 + (30 + w - 30) = w by omega]; exact b4 w w0 w1
  · rw [up_n (by omega), up_s]; exact b6
  · rw [up_s]; exact b7
section TR
variable {d : Nat} {I : Nat → Nat → Int} {A : Nat → Int → Int} {W : qWt} {R : zR} {F : zF} {s : Int → Int}
theorem c_save58 (hd : 1 ≤ d) : q_call q_MT d 20 [.ref 24, .ref 58] (zM I A W) = some (.inl none, zM I (ua A 58 (svR (A 25) (A 26) (A 27) (A 28) (A 58) (I 24 7) (I 24 8))) W) := by
  obtain ⟨d, rfl⟩ : ∃ e, d = e + 1 := ⟨d - 1, by omega⟩
  rw [cl_X1_save]
  simp (implicitDefEqProofs := false) (disch := omega) only [↓rI_s, ↓rV_s, ↓rI_e, ↓rV_e, zc_eq, zc_ne, zc_lt, zc_ge, zc_gt, zc_le, zlt_t, zlt_f, zle_t, zle_f, zeq_t, zeq_f, lz, zadd, zsub, zmul, zneg, zb_e0, zb_e1, boo0, boo1, ua_s, ua_n, ua_ua, up_s, u2_s, u2_f, u2_c, u2_u2, Int.natCast_add, Int.zero_add, Int.add_zero, ↓reduceIte, ne_eq, not_true_eq_false, not_false_eq_true, Int.natCast_one, ↓k_X1_save_0, ↓zn_58, ↓zg_24_2, ↓zg_24_3, ↓zg_24_4, ↓zg_24_5, ↓zg_24_7, ↓zg_24_8, zc_25_58, zc_26_58, zc_27_58, zc_28_58, zs_58]
  rfl
theorem c24_onF {w : Int} (hd : 1 ≤ d) (hR : wR R) (hs : sP R s) (hb : A 25 w = enc (s w) (s (30 + w))) (h0 : 0 ≤ w) (h1 : w < rW R) : q_call q_MT d 22 [.ref 24, .int (zI w)] (zM I A W) = some (.inl (some (.int (zI (zb (0 ≤ s w))))), zM I A W) := by
  obtain ⟨d, rfl⟩ : ∃ e, d = e + 1 := ⟨d - 1, by omega⟩
  have hw := hR.2.1
  have hf := hR.2.2.2.2.1
  have hc4 := hR.2.2.1
  have he := enc_f hs h0 h1
  have hp := hs w h0 h1
  rw [cl_X1_isOnFelt]
  by_cases h : 0 ≤ s w
  · simp (implicitDefEqProofs := false) (disch := omega) only [↓rI_s, ↓rV_s, ↓rI_e, ↓rV_e, zc_eq, zc_ne, zc_lt, zc_ge, zc_gt, zc_le, zlt_t, zlt_f, zle_t, zle_f, zeq_t, zeq_f, lz, zadd, zsub, zmul, zneg, zb_e0, zb_e1, boo0, boo1, ua_s, ua_n, ua_ua, up_s, u2_s, u2_f, u2_c, u2_u2, Int.natCast_add, Int.zero_add, Int.add_zero, ↓reduceIte, ne_eq, not_true_eq_false, not_false_eq_true, Int.natCast_one, ↓k_X1_isOnFelt_0, ↓k_X1_isOnFelt_24, ↓k_X1_isOnFelt_25, ↓zg_24_2, zl_25, zs_25, ↓zn_25]
    rw [zb_t h]
  · simp (implicitDefEqProofs := false) (disch := omega) only [↓rI_s, ↓rV_s, ↓rI_e, ↓rV_e, zc_eq, zc_ne, zc_lt, zc_ge, zc_gt, zc_le, zlt_t, zlt_f, zle_t, zle_f, zeq_t, zeq_f, lz, zadd, zsub, zmul, zneg, zb_e0, zb_e1, boo0, boo1, ua_s, ua_n, ua_ua, up_s, u2_s, u2_f, u2_c, u2_u2, Int.natCast_add, Int.zero_add, Int.add_zero, ↓reduceIte, ne_eq, not_true_eq_false, not_false_eq_true, Int.natCast_one, ↓k_X1_isOnFelt_0, ↓k_X1_isOnFelt_24, ↓k_X1_isOnFelt_25, ↓zg_24_2, zl_25, zs_25, ↓zn_25]
    rw [zb_f h]
theorem c24_load76 {l1 : Value} (hd : 1 ≤ d) (hR : cR R I A) (hs : sP R s) (b1 : ∀ w : Int, 0 ≤ w → w < rW R → A 25 w = enc (s w) (s (30 + w))) (b2 : ∀ w : Int, 0 ≤ w → w < rW R → A 26 w = s (10 + w)) (b3 : ∀ w : Int, 0 ≤ w → w < rW R → A 27 w = s (20 + w)) (b4 : ∀ h : Int, 0 ≤ h → h < rH R → A 28 h = s (40 + h)) (b6 : I 24 7 = s 45) (b7 : I 24 8 = s 46) : ∃ g, bR R s (A 25) (A 26) (A 27) (A 28) g (I 24 7) (I 24 8) ∧ q_run qm_X1_load (q_call q_MT d) 76 [.ref 24, l1, .int (zI 0)] [] (zM I A W) = some (.inl none, zM I (ua A 29 g) W) := by
  have hw := hR.1.2.1
  have hf := hR.1.2.2.2.2.1
  have hn := hR.2.2.1
  have z1 : ∃ g, (∀ y : Int, 0 ≤ y → y < 30 → g y = 0) ∧ q_run qm_X1_load (q_call q_MT d) 76 [.ref 24, l1, .int (zI 0)] [] (zM I A W) = q_run qm_X1_load (q_call q_MT d) 97 [.ref 24, l1, .int (zI 0)] [] (zM I (ua A 29 g) W) := by
    have hid : ua A 29 (A 29) = A := ua_id
    conv => enter [1, g, 2, 1]; rw [← hid]
    refine lp_x (fun j (g : Int → Int) => q_run qm_X1_load (q_call q_MT d) 76 [.ref 24, l1, .int (zI j)] [] (zM I (ua A 29 g) W)) (fun j g => ∀ y : Int, 0 ≤ y → y < j → g y = 0) (fun r => ∃ g, (∀ y : Int, 0 ≤ y → y < 30 → g y = 0) ∧ r = q_run qm_X1_load (q_call q_MT d) 97 [.ref 24, l1, .int (zI 0)] [] (zM I (ua A 29 g) W)) 30 ?_ ?_ 0 (A 29) (by omega) (fun y y0 y1 => by omega)
    · intro g hg
      refine ⟨g, hg, ?_⟩
      rw [k_X1_load_76]
      simp (implicitDefEqProofs := false) (disch := omega) only [↓rI_s, ↓rV_s, ↓rI_e, ↓rV_e, zc_eq, zc_ne, zc_lt, zc_ge, zc_gt, zc_le, zlt_t, zlt_f, zle_t, zle_f, zeq_t, zeq_f, lz, zadd, zsub, zmul, zneg, zb_e0, zb_e1, boo0, boo1, ua_s, ua_n, ua_ua, up_s, u2_s, u2_f, u2_c, u2_u2, Int.natCast_add, Int.zero_add, Int.add_zero, ↓reduceIte, ne_eq, not_true_eq_false, not_false_eq_true, Int.natCast_one]
    · intro j g hj hg
      refine .inr ⟨up g j 0, fun y y0 y1 => ?_, ?_⟩
      · by_cases e : y = j
        · subst e; rw [up_s]
        · rw [up_n e]; exact hg y y0 (by omega)
      · rw [k_X1_load_76]
        simp (implicitDefEqProofs := false) (disch := omega) only [↓rI_s, ↓rV_s, ↓rI_e, ↓rV_e, zc_eq, zc_ne, zc_lt, zc_ge, zc_gt, zc_le, zlt_t, zlt_f, zle_t, zle_f, zeq_t, zeq_f, lz, zadd, zsub, zmul, zneg, zb_e0, zb_e1, boo0, boo1, ua_s, ua_n, ua_ua, up_s, u2_s, u2_f, u2_c, u2_u2, Int.natCast_add, Int.zero_add, Int.add_zero, ↓reduceIte, ne_eq, not_true_eq_false, not_false_eq_true, Int.natCast_one, ↓zg_24_6, zs_29]
  obtain ⟨g0, hg0, e0⟩ := z1
  rw [e0]
  refine lp_x (fun j (g : Int → Int) => q_run qm_X1_load (q_call q_MT d) 97 [.ref 24, l1, .int (zI j)] [] (zM I (ua A 29 g) W)) (fun j g => ∀ y : Int, 0 ≤ y → y < 30 → g y = cnt j fun w => decide (s w = y)) (fun r => ∃ g, bR R s (A 25) (A 26) (A 27) (A 28) g (I 24 7) (I 24 8) ∧ r = some (.inl none, zM I (ua A 29 g) W)) (rW R) ?_ ?_ 0 g0 (by omega) (fun y y0 y1 => hg0 y y0 y1)
  · intro g hg
    refine ⟨g, ⟨b1, b2, b3, b4, hg, b6, b7⟩, ?_⟩
    rw [k_X1_load_97]
    simp (implicitDefEqProofs := false) (disch := omega) only [↓rI_s, ↓rV_s, ↓rI_e, ↓rV_e, zc_eq, zc_ne, zc_lt, zc_ge, zc_gt, zc_le, zlt_t, zlt_f, zle_t, zle_f, zeq_t, zeq_f, lz, zadd, zsub, zmul, zneg, zb_e0, zb_e1, boo0, boo1, ua_s, ua_n, ua_ua, up_s, u2_s, u2_f, u2_c, u2_u2, Int.natCast_add, Int.zero_add, Int.add_zero, ↓reduceIte, ne_eq, not_true_eq_false, not_false_eq_true, Int.natCast_one, ↓zg_24_0, ↓zg_5_1, hn, Int.le_refl]
  · intro j g hj hg
    have bj := b1 j (by omega) (by omega)
    have pj := hs j (by omega) (by omega)
    have eo := c24_onF (A := ua A 29 g) (I := I) (W := W) hd hR.1 hs bj (by omega) (by omega)
    rw [k_X1_load_97]
    by_cases q : 0 ≤ s j
    · rw [(enc_f hs (by omega) (by omega)).1 q] at bj
      have gj := hg (s j) q (by omega)
      have cb := cnt_lo j fun w => decide (s w = s j)
      have ch := cnt_hi j fun w => decide (s w = s j)
      rw [zb_t q] at eo
      refine .inr ⟨up g (s j) (g (s j) + 1), fun y y0 y1 => ?_, ?_⟩
      · by_cases e : y = s j
        · subst e; rw [up_s, cnt_t (p := fun w => decide (s w = s j)) (decide_eq_true rfl), gj]
        · rw [up_n e, cnt_f (p := fun w => decide (s w = y)) (fun q => e (of_decide_eq_true q).symm)]; exact hg y y0 y1
      · simp (implicitDefEqProofs := false) (disch := omega) only [↓rI_s, ↓rV_s, ↓rI_e, ↓rV_e, zc_eq, zc_ne, zc_lt, zc_ge, zc_gt, zc_le, zlt_t, zlt_f, zle_t, zle_f, zeq_t, zeq_f, lz, zadd, zsub, zmul, zneg, zb_e0, zb_e1, boo0, boo1, ua_s, ua_n, ua_ua, up_s, u2_s, u2_f, u2_c, u2_u2, Int.natCast_add, Int.zero_add, Int.add_zero, ↓reduceIte, ne_eq, not_true_eq_false, not_false_eq_true, Int.natCast_one, ↓zg_24_0, ↓zg_5_1, hn, ↓mc_24, eo, ↓zg_24_6, ↓zg_24_2, zl_25, bj, zl_29, zs_29, ↓k_X1_load_131]
    · rw [zb_f q] at eo
      refine .inr ⟨g, fun y y0 y1 => ?_, ?_⟩
      · rw [cnt_f (p := fun w => decide (s w = y)) (fun q2 => q (by have := of_decide_eq_true q2; omega))]; exact hg y y0 y1
      · simp (implicitDefEqProofs := false) (disch := omega) only [↓rI_s, ↓rV_s, ↓rI_e, ↓rV_e, zc_eq, zc_ne, zc_lt, zc_ge, zc_gt, zc_le, zlt_t, zlt_f, zle_t, zle_f, zeq_t, zeq_f, lz, zadd, zsub, zmul, zneg, zb_e0, zb_e1, boo0, boo1, ua_s, ua_n, ua_ua, up_s, u2_s, u2_f, u2_c, u2_u2, Int.natCast_add, Int.zero_add, Int.add_zero, ↓reduceIte, ne_eq, not_true_eq_false, not_false_eq_true, Int.natCast_one, ↓zg_24_0, ↓zg_5_1, hn, ↓mc_24, eo, ↓k_X1_load_131]
theorem c30_onF {w : Int} (hd : 1 ≤ d) (hR : wR R) (hs : sP R s) (hb : A 31 w = enc (s w) (s (30 + w))) (h0 : 0 ≤ w) (h1 : w < rW R) : q_call q_MT d 22 [.ref 30, .int (zI w)] (zM I A W) = some (.inl (some (.int (zI (zb (0 ≤ s w))))), zM I A W) := by
  obtain ⟨d, rfl⟩ : ∃ e, d = e + 1 := ⟨d - 1, by omega⟩
  have hw := hR.2.1
  have hf := hR.2.2.2.2.1
  have hc4 := hR.2.2.1
  have he := enc_f hs h0 h1
  have hp := hs w h0 h1
  rw [cl_X1_isOnFelt]
  by_cases h : 0 ≤ s w
  · simp (implicitDefEqProofs := false) (disch := omega) only [↓rI_s, ↓rV_s, ↓rI_e, ↓rV_e, zc_eq, zc_ne, zc_lt, zc_ge, zc_gt, zc_le, zlt_t, zlt_f, zle_t, zle_f, zeq_t, zeq_f, lz, zadd, zsub, zmul, zneg, zb_e0, zb_e1, boo0, boo1, ua_s, ua_n, ua_ua, up_s, u2_s, u2_f, u2_c, u2_u2, Int.natCast_add, Int.zero_add, Int.add_zero, ↓reduceIte, ne_eq, not_true_eq_false, not_false_eq_true, Int.natCast_one, ↓k_X1_isOnFelt_0, ↓k_X1_isOnFelt_24, ↓k_X1_isOnFelt_25, ↓zg_30_2, zl_31, zs_31, ↓zn_31]
    rw [zb_t h]
  · simp (implicitDefEqProofs := false) (disch := omega) only [↓rI_s, ↓rV_s, ↓rI_e, ↓rV_e, zc_eq, zc_ne, zc_lt, zc_ge, zc_gt, zc_le, zlt_t, zlt_f, zle_t, zle_f, zeq_t, zeq_f, lz, zadd, zsub, zmul, zneg, zb_e0, zb_e1, boo0, boo1, ua_s, ua_n, ua_ua, up_s, u2_s, u2_f, u2_c, u2_u2, Int.natCast_add, Int.zero_add, Int.add_zero, ↓reduceIte, ne_eq, not_true_eq_false, not_false_eq_true, Int.natCast_one, ↓k_X1_isOnFelt_0, ↓k_X1_isOnFelt_24, ↓k_X1_isOnFelt_25, ↓zg_30_2, zl_31, zs_31, ↓zn_31]
    rw [zb_f h]
theorem c30_load76 {l1 : Value} (hd : 1 ≤ d) (hR : cR R I A) (hs : sP R s) (b1 : ∀ w : Int, 0 ≤ w → w < rW R → A 31 w = enc (s w) (s (30 + w))) (b2 : ∀ w : Int, 0 ≤ w → w < rW R → A 32 w = s (10 + w)) (b3 : ∀ w : Int, 0 ≤ w → w < rW R → A 33 w = s (20 + w)) (b4 : ∀ h : Int, 0 ≤ h → h < rH R → A 34 h = s (40 + h)) (b6 : I 30 7 = s 45) (b7 : I 30 8 = s 46) : ∃ g, bR R s (A 31) (A 32) (A 33) (A 34) g (I 30 7) (I 30 8) ∧ q_run qm_X1_load (q_call q_MT d) 76 [.ref 30, l1, .int (zI 0)] [] (zM I A W) = some (.inl none, zM I (ua A 35 g) W) := by
  have hw := hR.1.2.1
  have hf := hR.1.2.2.2.2.1
  have hn := hR.2.2.1
  have z1 : ∃ g, (∀ y : Int, 0 ≤ y → y < 30 → g y = 0) ∧ q_run qm_X1_load (q_call q_MT d) 76 [.ref 30, l1, .int (zI 0)] [] (zM I A W) = q_run qm_X1_load (q_call q_MT d) 97 [.ref 30, l1, .int (zI 0)] [] (zM I (ua A 35 g) W) := by
    have hid : ua A 35 (A 35) = A := ua_id
    conv => enter [1, g, 2, 1]; rw [← hid]
    refine lp_x (fun j (g : Int → Int) => q_run qm_X1_load (q_call q_MT d) 76 [.ref 30, l1, .int (zI j)] [] (zM I (ua A 35 g) W)) (fun j g => ∀ y : Int, 0 ≤ y → y < j → g y = 0) (fun r => ∃ g, (∀ y : Int, 0 ≤ y → y < 30 → g y = 0) ∧ r = q_run qm_X1_load (q_call q_MT d) 97 [.ref 30, l1, .int (zI 0)] [] (zM I (ua A 35 g) W)) 30 ?_ ?_ 0 (A 35) (by omega) (fun y y0 y1 => by omega)
    · intro g hg
      refine ⟨g, hg, ?_⟩
      rw [k_X1_load_76]
      simp (implicitDefEqProofs := false) (disch := omega) only [↓rI_s, ↓rV_s, ↓rI_e, ↓rV_e, zc_eq, zc_ne, zc_lt, zc_ge, zc_gt, zc_le, zlt_t, zlt_f, zle_t, zle_f, zeq_t, zeq_f, lz, zadd, zsub, zmul, zneg, zb_e0, zb_e1, boo0, boo1, ua_s, ua_n, ua_ua, up_s, u2_s, u2_f, u2_c, u2_u2, Int.natCast_add, Int.zero_add, Int.add_zero, ↓reduceIte, ne_eq, not_true_eq_false, not_false_eq_true, Int.natCast_one]
    · intro j g hj hg
      refine .inr ⟨up g j 0, fun y y0 y1 => ?_, ?_⟩
      · by_cases e : y = j
        · subst e; rw [up_s]
        · rw [up_n e]; exact hg y y0 (by omega)
      · rw [k_X1_load_76]
        simp (implicitDefEqProofs := false) (disch := omega) only [↓rI_s, ↓rV_s, ↓rI_e, ↓rV_e, zc_eq, zc_ne, zc_lt, zc_ge, zc_gt, zc_le, zlt_t, zlt_f, zle_t, zle_f, zeq_t, zeq_f, lz, zadd, zsub, zmul, zneg, zb_e0, zb_e1, boo0, boo1, ua_s, ua_n, ua_ua, up_s, u2_s, u2_f, u2_c, u2_u2, Int.natCast_add, Int.zero_add, Int.add_zero, ↓reduceIte, ne_eq, not_true_eq_false, not_false_eq_true, Int.natCast_one, ↓zg_30_6, zs_35]
  obtain ⟨g0, hg0, e0⟩ := z1
  rw [e0]
  refine lp_x (fun j (g : Int → Int) => q_run qm_X1_load (q_call q_MT d) 97 [.ref 30, l1, .int (zI j)] [] (zM I (ua A 35 g) W)) (fun j g => ∀ y : Int, 0 ≤ y → y < 30 → g y = cnt j fun w => decide (s w = y)) (fun r => ∃ g, bR R s (A 31) (A 32) (A 33) (A 34) g (I 30 7) (I 30 8) ∧ r = some (.inl none, zM I (ua A 35 g) W)) (rW R) ?_ ?_ 0 g0 (by omega) (fun y y0 y1 => hg0 y y0 y1)
  · intro g hg
    refine ⟨g, ⟨b1, b2, b3, b4, hg, b6, b7⟩, ?_⟩
    rw [k_X1_load_97]
    simp (implicitDefEqProofs := false) (disch := omega) only [↓rI_s, ↓rV_s, ↓rI_e, ↓rV_e, zc_eq, zc_ne, zc_lt, zc_ge, zc_gt, zc_le, zlt_t, zlt_f, zle_t, zle_f, zeq_t, zeq_f, lz, zadd, zsub, zmul, zneg, zb_e0, zb_e1, boo0, boo1, ua_s, ua_n, ua_ua, up_s, u2_s, u2_f, u2_c, u2_u2, Int.natCast_add, Int.zero_add, Int.add_zero, ↓reduceIte, ne_eq, not_true_eq_false, not_false_eq_true, Int.natCast_one, ↓zg_30_0, ↓zg_5_1, hn, Int.le_refl]
  · intro j g hj hg
    have bj := b1 j (by omega) (by omega)
    have pj := hs j (by omega) (by omega)
    have eo := c30_onF (A := ua A 35 g) (I := I) (W := W) hd hR.1 hs bj (by omega) (by omega)
    rw [k_X1_load_97]
    by_cases q : 0 ≤ s j
    · rw [(enc_f hs (by omega) (by omega)).1 q] at bj
      have gj := hg (s j) q (by omega)
      have cb := cnt_lo j fun w => decide (s w = s j)
      have ch := cnt_hi j fun w => decide (s w = s j)
      rw [zb_t q] at eo
      refine .inr ⟨up g (s j) (g (s j) + 1), fun y y0 y1 => ?_, ?_⟩
      · by_cases e : y = s j
        · subst e; rw [up_s, cnt_t (p := fun w => decide (s w = s j)) (decide_eq_true rfl), gj]
        · rw [up_n e, cnt_f (p := fun w => decide (s w = y)) (fun q => e (of_decide_eq_true q).symm)]; exact hg y y0 y1
      · simp (implicitDefEqProofs := false) (disch := omega) only [↓rI_s, ↓rV_s, ↓rI_e, ↓rV_e, zc_eq, zc_ne, zc_lt, zc_ge, zc_gt, zc_le, zlt_t, zlt_f, zle_t, zle_f, zeq_t, zeq_f, lz, zadd, zsub, zmul, zneg, zb_e0, zb_e1, boo0, boo1, ua_s, ua_n, ua_ua, up_s, u2_s, u2_f, u2_c, u2_u2, Int.natCast_add, Int.zero_add, Int.add_zero, ↓reduceIte, ne_eq, not_true_eq_false, not_false_eq_true, Int.natCast_one, ↓zg_30_0, ↓zg_5_1, hn, ↓mc_30, eo, ↓zg_30_6, ↓zg_30_2, zl_31, bj, zl_35, zs_35, ↓k_X1_load_131]
    · rw [zb_f q] at eo
      refine .inr ⟨g, fun y y0 y1 => ?_, ?_⟩
      · rw [cnt_f (p := fun w => decide (s w = y)) (fun q2 => q (by have := of_decide_eq_true q2; omega))]; exact hg y y0 y1
      · simp (implicitDefEqProofs := false) (disch := omega) only [↓rI_s, ↓rV_s, ↓rI_e, ↓rV_e, zc_eq, zc_ne, zc_lt, zc_ge, zc_gt, zc_le, zlt_t, zlt_f, zle_t, zle_f, zeq_t, zeq_f, lz, zadd, zsub, zmul, zneg, zb_e0, zb_e1, boo0, boo1, ua_s, ua_n, ua_ua, up_s, u2_s, u2_f, u2_c, u2_u2, Int.natCast_add, Int.zero_add, Int.add_zero, ↓reduceIte, ne_eq, not_true_eq_false, not_false_eq_true, Int.natCast_one, ↓zg_30_0, ↓zg_5_1, hn, ↓mc_30, eo, ↓k_X1_load_131]
theorem c_load58 (hd : 2 ≤ d) (hR : cR R I A) (hs : sP R s) (hk : kR R s (A 58)) : ∃ I' A', fi [(30, 7), (30, 8)] I I' ∧ fr [31, 32, 33, 34, 35] A A' ∧ bR R s (A' 31) (A' 32) (A' 33) (A' 34) (A' 35) (I' 30 7) (I' 30 8) ∧ q_call q_MT d 21 [.ref 30, .ref 58] (zM I A W) = some (.inl none, zM I' A' W) := by
  obtain ⟨d, rfl⟩ : ∃ e, d = e + 1 := ⟨d - 1, by omega⟩
  have h10 := hR.1.2.1
  have h5 := hR.1.1
  obtain ⟨k1, k2, k3, k4, k5, k6⟩ := hk
  have f1 : fr [31, 32, 33, 34] A (ua (ua (ua (ua A 31 (uc (A 58) (A 31) 0 0 10)) 32 (uc (A 58) (A 32) 10 0 10)) 33 (uc (A 58) (A 33) 20 0 10)) 34 (uc (A 58) (A 34) 30 0 5)) := (((fr.refl.a rfl).a rfl).a rfl).a rfl
  have f2 : fi [(30, 7), (30, 8)] I (u2 (u2 I 30 7 (A 58 35)) 30 8 (A 58 36)) := (fi.refl.f rfl).f rfl
  obtain ⟨g, hb, e⟩ := c30_load76 (l1 := .ref 58) (W := W) (s := s) (show 1 ≤ d by omega) ((hR.fi f2 rfl).fr f1 rfl) hs (fun w w0 w1 => by
      show uc (A 58) (A 31) 0 0 10 w = _
      rw [uc_in (by omega) (by omega), show 0 + (w - 0) = w by omega]; exact k1 w w0 w1) (fun w w0 w1 => by
      show uc (A 58) (A 32) 10 0 10 w = _
      rw [uc_in (by omega) (by omega), show 10 + (w - 0) = 10 + w by omega]; exact k2 w w0 w1) (fun w w0 w1 => by
      show uc (A 58) (A 33) 20 0 10 w = _
      rw [uc_in (by omega) (by omega), show 20 + (w - 0) = 20 + w by omega]; exact k3 w w0 w1) (fun w w0 w1 => by
      show uc (A 58) (A 34) 30 0 5 w = _
      rw [uc_in (by omega) (by omega), show 30 + (w - 0) = 30 + w by omega]; exact k4 w w0 w1) (by rw [u2_f (by decide), u2_s]; exact k5) (by rw [u2_s]; exact k6)
  refine ⟨_, _, f2, (f1.wd rfl).a (c := 35) (g := g) rfl, hb, ?_⟩
  rw [cl_X1_load]
  simp (implicitDefEqProofs := false) (disch := omega) only [↓rI_s, ↓rV_s, ↓rI_e, ↓rV_e, zc_eq, zc_ne, zc_lt, zc_ge, zc_gt, zc_le, zlt_t, zlt_f, zle_t, zle_f, zeq_t, zeq_f, lz, zadd, zsub, zmul, zneg, zb_e0, zb_e1, boo0, boo1, ua_s, ua_n, ua_ua, up_s, u2_s, u2_f, u2_c, u2_u2, Int.natCast_add, Int.zero_add, Int.add_zero, ↓reduceIte, ne_eq, not_true_eq_false, not_false_eq_true, Int.natCast_one, ↓k_X1_load_0, ↓zn_58, ↓zg_30_2, ↓zg_30_3, ↓zg_30_4, ↓zg_30_5, zc_58_31, zc_58_32, zc_58_33, zc_58_34, zl_58, ↓zp_30_7, ↓zp_30_8]
  exact e
/-- the trial board holds a row -/
abbrev tB (R : zR) (s : Int → Int) (I : Nat → Nat → Int) (A : Nat → Int → Int) : Prop := bR R s (A 31) (A 32) (A 33) (A 34) (A 35) (I 30 7) (I 30 8)
abbrev tK : List (Nat × Nat) := [(30, 7), (30, 8)]
abbrev tL : List Nat := [22, 23, 31, 32, 33, 34, 35, 58]
theorem c_startTrial (hd : 3 ≤ d) (hX : cX R F s I A) : ∃ I' A', fi tK I I' ∧ fr tL A A' ∧ tB R s I' A' ∧ q_call q_MT d 152 [.ref 2] (zM I A W) = some (.inl none, zM I' A' W) := by
  obtain ⟨d, rfl⟩ : ∃ e, d = e + 1 := ⟨d - 1, by omega⟩
  have e1 := c_save58 (I := I) (A := A) (W := W) (d := d) (by omega)
  have hk := svR_k (g := A 58) hX.1.1 hX.2.1
  obtain ⟨I', A', f1, f2, b, e2⟩ := c_load58 (I := I) (A := ua A 58 (svR (A 25) (A 26) (A 27) (A 28) (A 58) (I 24 7) (I 24 8))) (W := W) (s := s) (show 2 ≤ d by omega) (hX.1.fr (L := [58]) (fr.refl.a rfl) rfl) hX.2.2.1.1.1 hk
  refine ⟨I', A', f1, (fr.refl.a rfl).tr (f2.wd rfl), b, ?_⟩
  rw [cl_X10_startTrial]
  simp (implicitDefEqProofs := false) (disch := omega) only [↓rI_s, ↓rV_s, ↓rI_e, ↓rV_e, zc_eq, zc_ne, zc_lt, zc_ge, zc_gt, zc_le, zlt_t, zlt_f, zle_t, zle_f, zeq_t, zeq_f, lz, zadd, zsub, zmul, zneg, zb_e0, zb_e1, boo0, boo1, ua_s, ua_n, ua_ua, up_s, u2_s, u2_f, u2_c, u2_u2, Int.natCast_add, Int.zero_add, Int.add_zero, ↓reduceIte, ne_eq, not_true_eq_false, not_false_eq_true, Int.natCast_one, ↓k_X10_startTrial_0, ↓zg_2_6, ↓zg_2_12, ↓zg_2_7, ↓mc_24, ↓mc_30, e1, e2]
def pasN (R : zR) (s : Int → Int) : Nat → Int → Int
  | 0 => s
  | n + 1 => pas R (pasN R s n)
theorem pasN_V (hV : sV R s) (hR : wR R) : ∀ n : Nat, sV R (pasN R s n)
  | 0 => hV
  | n + 1 => (pasN_V hV hR n).pa hR
theorem C_ahead {h n : Int} (hd : 6 ≤ d) (hX : cX R F s I A) (hh : wI h) (hn : wI n) : cOut I A W (q_call q_MT d 141 [.ref 2, .int (zI h), .int (zI n)] (zM I A W)) (if 0 ≤ h ∧ h < rH R then (if 0 ≤ n ∧ n ≤ 100 then 0 else 2) else 1) (pasN R s n.toNat (40 + h)) := by
  obtain ⟨d, rfl⟩ : ∃ e, d = e + 1 := ⟨d - 1, by omega⟩
  have hR := hX.1
  have h5 := hR.1.1
  rw [cl_X10_ahead]
  by_cases c1 : 0 ≤ h ∧ h < rH R
  · by_cases c2 : 0 ≤ n ∧ n ≤ 100
    · rw [if_pos c1, if_pos c2]
      obtain ⟨I1, A1, f1, g1, b, e⟩ := c_startTrial (W := W) (show 3 ≤ d by omega) hX
      simp (implicitDefEqProofs := false) (disch := omega) only [↓rI_s, ↓rV_s, ↓rI_e, ↓rV_e, zc_eq, zc_ne, zc_lt, zc_ge, zc_gt, zc_le, zlt_t, zlt_f, zle_t, zle_f, zeq_t, zeq_f, lz, zadd, zsub, zmul, zneg, zb_e0, zb_e1, boo0, boo1, ua_s, ua_n, ua_ua, up_s, u2_s, u2_f, u2_c, u2_u2, Int.natCast_add, Int.zero_add, Int.add_zero, ↓reduceIte, ne_eq, not_true_eq_false, not_false_eq_true, Int.natCast_one, ↓k_X10_ahead_0, ↓mc_2, s_needWink (show 2 ≤ d by omega) hR, s_needWink_f (show 2 ≤ d by omega) hR, s_needCup (show 2 ≤ d by omega) hR, s_needCup_f (show 2 ≤ d by omega) hR, s_needHouse (show 2 ≤ d by omega) hR, s_needHouse_f (show 2 ≤ d by omega) hR, s_needThere, s_needThere_f, s_needPress, s_needPress_f, s_needWhat, s_needWhat_f, s_needWithin, s_needWithin_f, s_need1, s_need0, t0_0, t0_1, e]
      refine lp_x (fun j (M : (Nat → Nat → Int) × (Nat → Int → Int)) => q_run qm_X10_ahead (q_call q_MT d) 19 [.ref 2, .int (zI h), .int (zI n), .int (zI j)] [] (zM M.1 M.2 W)) (fun j M => fi tK I M.1 ∧ fr tL A M.2 ∧ tB R (pasN R s j) M.1 M.2) (fun r => cOut I A W r 0 (pasN R s n.toNat (40 + h))) n.toNat ?_ ?_ 0 (I1, A1) (by omega) ⟨f1, g1, b⟩
      · rintro ⟨I2, A2⟩ ⟨f2, g2, b2⟩
        dsimp only at f2 g2 b2 ⊢
        refine cOut.ok (f2.wd rfl) (g2.wd rfl) ?_
        have b4 := b2.2.2.2.1 h c1.1 c1.2
        rw [k_X10_ahead_19]
        simp (implicitDefEqProofs := false) (disch := omega) only [↓rI_s, ↓rV_s, ↓rI_e, ↓rV_e, zc_eq, zc_ne, zc_lt, zc_ge, zc_gt, zc_le, zlt_t, zlt_f, zle_t, zle_f, zeq_t, zeq_f, lz, zadd, zsub, zmul, zneg, zb_e0, zb_e1, boo0, boo1, ua_s, ua_n, ua_ua, up_s, u2_s, u2_f, u2_c, u2_u2, Int.natCast_add, Int.zero_add, Int.add_zero, ↓reduceIte, ne_eq, not_true_eq_false, not_false_eq_true, Int.natCast_one, ↓zg_2_7, ↓zg_30_5, zl_34, b4]
      · rintro j ⟨I2, A2⟩ hj ⟨f2, g2, b2⟩
        dsimp only at f2 g2 b2 ⊢
        have vj := pasN_V hX.2.2.1.1 hR.1 j
        obtain ⟨A3, f3, b3, e3⟩ := c30_passDay (W := W) (show 3 ≤ d by omega) ((hR.fi f2 rfl).fr g2 rfl) b2 vj.1 vj
        refine .inr ⟨(u2 I2 30 7 (I2 30 7 + 1), A3), ⟨f2.f rfl, g2.tr (f3.wd rfl), ?_⟩, ?_⟩
        · dsimp only
          unfold tB
          rw [u2_s, u2_f (by decide)]; exact b3
        · rw [k_X10_ahead_19]
          simp (implicitDefEqProofs := false) (disch := omega) only [↓rI_s, ↓rV_s, ↓rI_e, ↓rV_e, zc_eq, zc_ne, zc_lt, zc_ge, zc_gt, zc_le, zlt_t, zlt_f, zle_t, zle_f, zeq_t, zeq_f, lz, zadd, zsub, zmul, zneg, zb_e0, zb_e1, boo0, boo1, ua_s, ua_n, ua_ua, up_s, u2_s, u2_f, u2_c, u2_u2, Int.natCast_add, Int.zero_add, Int.add_zero, ↓reduceIte, ne_eq, not_true_eq_false, not_false_eq_true, Int.natCast_one, ↓zg_2_7, ↓mc_30, e3]
    · rw [if_pos c1, if_neg c2]
      exact cOut.il (by simp (implicitDefEqProofs := false) (disch := omega) only [↓rI_s, ↓rV_s, ↓rI_e, ↓rV_e, zc_eq, zc_ne, zc_lt, zc_ge, zc_gt, zc_le, zlt_t, zlt_f, zle_t, zle_f, zeq_t, zeq_f, lz, zadd, zsub, zmul, zneg, zb_e0, zb_e1, boo0, boo1, ua_s, ua_n, ua_ua, up_s, u2_s, u2_f, u2_c, u2_u2, Int.natCast_add, Int.zero_add, Int.add_zero, ↓reduceIte, ne_eq, not_true_eq_false, not_false_eq_true, Int.natCast_one, ↓k_X10_ahead_0, ↓mc_2, s_needWink (show 2 ≤ d by omega) hR, s_needWink_f (show 2 ≤ d by omega) hR, s_needCup (show 2 ≤ d by omega) hR, s_needCup_f (show 2 ≤ d by omega) hR, s_needHouse (show 2 ≤ d by omega) hR, s_needHouse_f (show 2 ≤ d by omega) hR, s_needThere, s_needThere_f, s_needPress, s_needPress_f, s_needWhat, s_needWhat_f, s_needWithin, s_needWithin_f, s_need1, s_need0, t0_0, t0_1])
  · rw [if_neg c1]
    exact cOut.ns (by simp (implicitDefEqProofs := false) (disch := omega) only [↓rI_s, ↓rV_s, ↓rI_e, ↓rV_e, zc_eq, zc_ne, zc_lt, zc_ge, zc_gt, zc_le, zlt_t, zlt_f, zle_t, zle_f, zeq_t, zeq_f, lz, zadd, zsub, zmul, zneg, zb_e0, zb_e1, boo0, boo1, ua_s, ua_n, ua_ua, up_s, u2_s, u2_f, u2_c, u2_u2, Int.natCast_add, Int.zero_add, Int.add_zero, ↓reduceIte, ne_eq, not_true_eq_false, not_false_eq_true, Int.natCast_one, ↓k_X10_ahead_0, ↓mc_2, s_needWink (show 2 ≤ d by omega) hR, s_needWink_f (show 2 ≤ d by omega) hR, s_needCup (show 2 ≤ d by omega) hR, s_needCup_f (show 2 ≤ d by omega) hR, s_needHouse (show 2 ≤ d by omega) hR, s_needHouse_f (show 2 ≤ d by omega) hR, s_needThere, s_needThere_f, s_needPress, s_needPress_f, s_needWhat, s_needWhat_f, s_needWithin, s_needWithin_f, s_need1, s_need0, t0_0, t0_1])
theorem M_ahead {h n : Int} (hd : 6 ≤ d) (hX : mX R F s I A) (hh : wI h) (hn : wI n) : mOut I A W (q_call q_MT d 268 [.ref 59, .int (zI h), .int (zI n)] (zM I A W)) (if 0 ≤ h ∧ h < rH R then (if 0 ≤ n ∧ n ≤ 100 then 0 else 2) else 1) (pasN R s n.toNat (40 + h)) 2 := by
  obtain ⟨d, rfl⟩ : ∃ e, d = e + 1 := ⟨d - 1, by omega⟩
  have hR := hX.1
  have hs := hX.2.1
  have h5 := hR.1.1
  rw [cl_X11_ahead]
  by_cases c1 : 0 ≤ h ∧ h < rH R
  · by_cases c2 : 0 ≤ n ∧ n ≤ 100
    · rw [if_pos c1, if_pos c2]
      simp (implicitDefEqProofs := false) (disch := omega) only [↓rI_s, ↓rV_s, ↓rI_e, ↓rV_e, zc_eq, zc_ne, zc_lt, zc_ge, zc_gt, zc_le, zlt_t, zlt_f, zle_t, zle_f, zeq_t, zeq_f, lz, zadd, zsub, zmul, zneg, zb_e0, zb_e1, boo0, boo1, ua_s, ua_n, ua_ua, up_s, u2_s, u2_f, u2_c, u2_u2, Int.natCast_add, Int.zero_add, Int.add_zero, ↓reduceIte, ne_eq, not_true_eq_false, not_false_eq_true, Int.natCast_one, ↓k_X11_ahead_0, ↓mc_59, ↓zp_59_0, s_within, s_within_f, s_isPress, s_isPress_f, s_isWink (show 2 ≤ d by omega) hR, s_isWink_f (show 2 ≤ d by omega) hR, s_isHouse (show 2 ≤ d by omega) hR, s_isHouse_f (show 2 ≤ d by omega) hR, s_may1, s_may0, m_take (show 2 ≤ d by omega), hs]
      refine lp_x (fun j (_ : Unit) => q_run qm_X11_ahead (q_call q_MT d) 38 [.ref 59, .int (zI h), .int (zI n), .int (zI j)] [] (zM (u2 I 59 0 0) (ua A 77 (pasN R s j)) W)) (fun j _ => True) (fun r => mOut I A W r 0 (pasN R s n.toNat (40 + h)) 2) n.toNat ?_ ?_ 0 () (by omega) trivial
      · intro _ _
        refine mOut.ok (I1 := u2 I 59 0 0) (A1 := ua A 77 (pasN R s n.toNat)) (fi.refl.f rfl) (fr.refl.a rfl) u2_s ?_
        rw [k_X11_ahead_38]
        simp (implicitDefEqProofs := false) (disch := omega) only [↓rI_s, ↓rV_s, ↓rI_e, ↓rV_e, zc_eq, zc_ne, zc_lt, zc_ge, zc_gt, zc_le, zlt_t, zlt_f, zle_t, zle_f, zeq_t, zeq_f, lz, zadd, zsub, zmul, zneg, zb_e0, zb_e1, boo0, boo1, ua_s, ua_n, ua_ua, up_s, u2_s, u2_f, u2_c, u2_u2, Int.natCast_add, Int.zero_add, Int.add_zero, ↓reduceIte, ne_eq, not_true_eq_false, not_false_eq_true, Int.natCast_one, ↓zg_59_43, zl_77]
      · intro j _ hj _
        refine .inr ⟨(), trivial, ?_⟩
        have vj := pasN_V hX.2.2.1.1 hR.1 j
        have e := m_passes (A := ua A 77 (pasN R s j)) (I := u2 I 59 0 0) (W := W) (show 3 ≤ d by omega) hR.z vj
        rw [ua_ua, ua_s] at e
        rw [k_X11_ahead_38]
        simp (implicitDefEqProofs := false) (disch := omega) only [↓rI_s, ↓rV_s, ↓rI_e, ↓rV_e, zc_eq, zc_ne, zc_lt, zc_ge, zc_gt, zc_le, zlt_t, zlt_f, zle_t, zle_f, zeq_t, zeq_f, lz, zadd, zsub, zmul, zneg, zb_e0, zb_e1, boo0, boo1, ua_s, ua_n, ua_ua, up_s, u2_s, u2_f, u2_c, u2_u2, Int.natCast_add, Int.zero_add, Int.add_zero, ↓reduceIte, ne_eq, not_true_eq_false, not_false_eq_true, Int.natCast_one, ↓mc_59, e]
        rfl
    · rw [if_pos c1, if_neg c2]
      exact mOut.il fr.refl (by simp (implicitDefEqProofs := false) (disch := omega) only [↓rI_s, ↓rV_s, ↓rI_e, ↓rV_e, zc_eq, zc_ne, zc_lt, zc_ge, zc_gt, zc_le, zlt_t, zlt_f, zle_t, zle_f, zeq_t, zeq_f, lz, zadd, zsub, zmul, zneg, zb_e0, zb_e1, boo0, boo1, ua_s, ua_n, ua_ua, up_s, u2_s, u2_f, u2_c, u2_u2, Int.natCast_add, Int.zero_add, Int.add_zero, ↓reduceIte, ne_eq, not_true_eq_false, not_false_eq_true, Int.natCast_one, ↓k_X11_ahead_0, ↓k_X11_ahead_30, zp_59_0, ↓mc_59, ↓zg_59_43, zl_77, zs_77, ↓zn_77, ↓mc_59, ↓zp_59_0, s_within, s_within_f, s_isPress, s_isPress_f, s_isWink (show 2 ≤ d by omega) hR, s_isWink_f (show 2 ≤ d by omega) hR, s_isHouse (show 2 ≤ d by omega) hR, s_isHouse_f (show 2 ≤ d by omega) hR, s_may1, s_may0, m_take (show 2 ≤ d by omega)])
  · rw [if_neg c1]
    exact mOut.ns (by simp (implicitDefEqProofs := false) (disch := omega) only [↓rI_s, ↓rV_s, ↓rI_e, ↓rV_e, zc_eq, zc_ne, zc_lt, zc_ge, zc_gt, zc_le, zlt_t, zlt_f, zle_t, zle_f, zeq_t, zeq_f, lz, zadd, zsub, zmul, zneg, zb_e0, zb_e1, boo0, boo1, ua_s, ua_n, ua_ua, up_s, u2_s, u2_f, u2_c, u2_u2, Int.natCast_add, Int.zero_add, Int.add_zero, ↓reduceIte, ne_eq, not_true_eq_false, not_false_eq_true, Int.natCast_one, ↓k_X11_ahead_0, ↓k_X11_ahead_30, zp_59_0, ↓mc_59, ↓zg_59_43, zl_77, zs_77, ↓zn_77, ↓mc_59, ↓zp_59_0, s_within, s_within_f, s_isPress, s_isPress_f, s_isWink (show 2 ≤ d by omega) hR, s_isWink_f (show 2 ≤ d by omega) hR, s_isHouse (show 2 ≤ d by omega) hR, s_isHouse_f (show 2 ≤ d by omega) hR, s_may1, s_may0, m_take (show 2 ≤ d by omega)])
def rcB (f : Int → Int) : Nat → Int
  | 0 => -1
  | n + 1 => if rcB f n = -1 ∨ f (rcB f n) < f n then (n : Int) else rcB f n
theorem rcB_b (f : Int → Int) : ∀ n : Nat, 0 < n → 0 ≤ rcB f n ∧ rcB f n < n
  | 0, h => by omega
  | n + 1, _ => by
    unfold rcB
    by_cases h : n = 0
    · subst h; rw [if_pos (.inl rfl)]; omega
    · have := rcB_b f n (by omega)
      split <;> omega
def vRich (R : zR) (s : Int → Int) (k : Int) : Int := if rH R = 0 then -1 else if k = 0 then rcB (fun h => s (40 + h)) (rH R) else s (40 + rcB (fun h => s (40 + h)) (rH R))
theorem C_richest {k : Int} (hd : 6 ≤ d) (hX : cX R F s I A) (hk : wI k) : cOut I A W (q_call q_MT d 140 [.ref 2, .int (zI k)] (zM I A W)) (if 0 ≤ k ∧ k ≤ 1 then 0 else 2) (vRich R s k) := by
  obtain ⟨d, rfl⟩ : ∃ e, d = e + 1 := ⟨d - 1, by omega⟩
  obtain ⟨hR, hB, ⟨hV, -⟩, hL⟩ := hX
  have h5 := hR.1.1
  have e0 := hR.2.1
  rw [cl_X10_richest]
  by_cases c1 : 0 ≤ k ∧ k ≤ 1
  · rw [if_pos c1]
    refine cOut.ok fi.refl fr.refl ?_
    by_cases q : rH R = 0
    · have ev : vRich R s k = -1 := if_pos q
      rw [ev]
      simp (implicitDefEqProofs := false) (disch := omega) only [↓rI_s, ↓rV_s, ↓rI_e, ↓rV_e, zc_eq, zc_ne, zc_lt, zc_ge, zc_gt, zc_le, zlt_t, zlt_f, zle_t, zle_f, zeq_t, zeq_f, lz, zadd, zsub, zmul, zneg, zb_e0, zb_e1, boo0, boo1, ua_s, ua_n, ua_ua, up_s, u2_s, u2_f, u2_c, u2_u2, Int.natCast_add, Int.zero_add, Int.add_zero, ↓reduceIte, ne_eq, not_true_eq_false, not_false_eq_true, Int.natCast_one, ↓k_X10_richest_0, ↓mc_2, s_needWink (show 2 ≤ d by omega) hR, s_needWink_f (show 2 ≤ d by omega) hR, s_needCup (show 2 ≤ d by omega) hR, s_needCup_f (show 2 ≤ d by omega) hR, s_needHouse (show 2 ≤ d by omega) hR, s_needHouse_f (show 2 ≤ d by omega) hR, s_needThere, s_needThere_f, s_needPress, s_needPress_f, s_needWhat, s_needWhat_f, s_needWithin, s_needWithin_f, s_need1, s_need0, t0_0, t0_1, ↓zg_2_1, ↓zg_5_0, e0]
    · simp (implicitDefEqProofs := false) (disch := omega) only [↓rI_s, ↓rV_s, ↓rI_e, ↓rV_e, zc_eq, zc_ne, zc_lt, zc_ge, zc_gt, zc_le, zlt_t, zlt_f, zle_t, zle_f, zeq_t, zeq_f, lz, zadd, zsub, zmul, zneg, zb_e0, zb_e1, boo0, boo1, ua_s, ua_n, ua_ua, up_s, u2_s, u2_f, u2_c, u2_u2, Int.natCast_add, Int.zero_add, Int.add_zero, ↓reduceIte, ne_eq, not_true_eq_false, not_false_eq_true, Int.natCast_one, ↓k_X10_richest_0, ↓mc_2, s_needWink (show 2 ≤ d by omega) hR, s_needWink_f (show 2 ≤ d by omega) hR, s_needCup (show 2 ≤ d by omega) hR, s_needCup_f (show 2 ≤ d by omega) hR, s_needHouse (show 2 ≤ d by omega) hR, s_needHouse_f (show 2 ≤ d by omega) hR, s_needThere, s_needThere_f, s_needPress, s_needPress_f, s_needWhat, s_needWhat_f, s_needWithin, s_needWithin_f, s_need1, s_need0, t0_0, t0_1, ↓zg_2_1, ↓zg_5_0, e0]
      refine lp_x (fun j (_ : Unit) => q_run qm_X10_richest (q_call q_MT d) 22 [.ref 2, .int (zI k), .int (zI (rcB (fun h => s (40 + h)) j)), .int (zI j)] [] (zM I A W)) (fun j _ => 0 < j) (fun r => r = _) (rH R) ?_ ?_ 1 () (by omega) (by omega)
      · intro _ hj
        have rb := rcB_b (fun h => s (40 + h)) (rH R) hj
        have b4 := hB.2.2.2.1 (rcB (fun h => s (40 + h)) (rH R)) rb.1 rb.2
        rw [k_X10_richest_22]
        by_cases q2 : k = 0
        · have ev : vRich R s k = rcB (fun h => s (40 + h)) (rH R) := by unfold vRich; rw [if_neg q, if_pos q2]
          rw [ev]
          simp (implicitDefEqProofs := false) (disch := omega) only [↓rI_s, ↓rV_s, ↓rI_e, ↓rV_e, zc_eq, zc_ne, zc_lt, zc_ge, zc_gt, zc_le, zlt_t, zlt_f, zle_t, zle_f, zeq_t, zeq_f, lz, zadd, zsub, zmul, zneg, zb_e0, zb_e1, boo0, boo1, ua_s, ua_n, ua_ua, up_s, u2_s, u2_f, u2_c, u2_u2, Int.natCast_add, Int.zero_add, Int.add_zero, ↓reduceIte, ne_eq, not_true_eq_false, not_false_eq_true, Int.natCast_one, ↓zg_2_1, ↓zg_5_0, e0, Int.le_refl, ↓k_X10_richest_79]
        · have ev : vRich R s k = s (40 + rcB (fun h => s (40 + h)) (rH R)) := by unfold vRich; rw [if_neg q, if_neg q2]
          rw [ev]
          simp (implicitDefEqProofs := false) (disch := omega) only [↓rI_s, ↓rV_s, ↓rI_e, ↓rV_e, zc_eq, zc_ne, zc_lt, zc_ge, zc_gt, zc_le, zlt_t, zlt_f, zle_t, zle_f, zeq_t, zeq_f, lz, zadd, zsub, zmul, zneg, zb_e0, zb_e1, boo0, boo1, ua_s, ua_n, ua_ua, up_s, u2_s, u2_f, u2_c, u2_u2, Int.natCast_add, Int.zero_add, Int.add_zero, ↓reduceIte, ne_eq, not_true_eq_false, not_false_eq_true, Int.natCast_one, ↓zg_2_1, ↓zg_5_0, e0, Int.le_refl, ↓k_X10_richest_79, ↓zg_2_6, ↓zg_24_5, zl_28, b4]
      · intro j _ hj hj0
        have rb := rcB_b (fun h => s (40 + h)) j hj0
        have b4 := hB.2.2.2.1 (rcB (fun h => s (40 + h)) j) rb.1 (by omega)
        have b4' := hB.2.2.2.1 j (by omega) (by omega)
        have p4 := hV.2.2.2.2 (rcB (fun h => s (40 + h)) j) rb.1 (by omega)
        have p4' := hV.2.2.2.2 j (by omega) (by omega)
        refine .inr ⟨(), by omega, ?_⟩
        rw [k_X10_richest_22]
        by_cases q2 : s (40 + rcB (fun h => s (40 + h)) j) < s (40 + j)
        · have e : rcB (fun h => s (40 + h)) (j + 1) = j := if_pos (.inr q2)
          rw [e]
          simp (implicitDefEqProofs := false) (disch := omega) only [↓rI_s, ↓rV_s, ↓rI_e, ↓rV_e, zc_eq, zc_ne, zc_lt, zc_ge, zc_gt, zc_le, zlt_t, zlt_f, zle_t, zle_f, zeq_t, zeq_f, lz, zadd, zsub, zmul, zneg, zb_e0, zb_e1, boo0, boo1, ua_s, ua_n, ua_ua, up_s, u2_s, u2_f, u2_c, u2_u2, Int.natCast_add, Int.zero_add, Int.add_zero, ↓reduceIte, ne_eq, not_true_eq_false, not_false_eq_true, Int.natCast_one, ↓zg_2_1, ↓zg_5_0, e0, ↓zg_2_6, ↓zg_24_5, zl_28, b4, b4', ↓k_X10_richest_56]
        · have e : rcB (fun h => s (40 + h)) (j + 1) = rcB (fun h => s (40 + h)) j := if_neg (by dsimp only; omega)
          rw [e]
          simp (implicitDefEqProofs := false) (disch := omega) only [↓rI_s, ↓rV_s, ↓rI_e, ↓rV_e, zc_eq, zc_ne, zc_lt, zc_ge, zc_gt, zc_le, zlt_t, zlt_f, zle_t, zle_f, zeq_t, zeq_f, lz, zadd, zsub, zmul, zneg, zb_e0, zb_e1, boo0, boo1, ua_s, ua_n, ua_ua, up_s, u2_s, u2_f, u2_c, u2_u2, Int.natCast_add, Int.zero_add, Int.add_zero, ↓reduceIte, ne_eq, not_true_eq_false, not_false_eq_true, Int.natCast_one, ↓zg_2_1, ↓zg_5_0, e0, ↓zg_2_6, ↓zg_24_5, zl_28, b4, b4', ↓k_X10_richest_56]
  · rw [if_neg c1]
    exact cOut.il (by simp (implicitDefEqProofs := false) (disch := omega) only [↓rI_s, ↓rV_s, ↓rI_e, ↓rV_e, zc_eq, zc_ne, zc_lt, zc_ge, zc_gt, zc_le, zlt_t, zlt_f, zle_t, zle_f, zeq_t, zeq_f, lz, zadd, zsub, zmul, zneg, zb_e0, zb_e1, boo0, boo1, ua_s, ua_n, ua_ua, up_s, u2_s, u2_f, u2_c, u2_u2, Int.natCast_add, Int.zero_add, Int.add_zero, ↓reduceIte, ne_eq, not_true_eq_false, not_false_eq_true, Int.natCast_one, ↓k_X10_richest_0, ↓mc_2, s_needWink (show 2 ≤ d by omega) hR, s_needWink_f (show 2 ≤ d by omega) hR, s_needCup (show 2 ≤ d by omega) hR, s_needCup_f (show 2 ≤ d by omega) hR, s_needHouse (show 2 ≤ d by omega) hR, s_needHouse_f (show 2 ≤ d by omega) hR, s_needThere, s_needThere_f, s_needPress, s_needPress_f, s_needWhat, s_needWhat_f, s_needWithin, s_needWithin_f, s_need1, s_need0, t0_0, t0_1])
theorem M_richest {k : Int} (hd : 6 ≤ d) (hX : mX R F s I A) (hk : wI k) : mOut I A W (q_call q_MT d 267 [.ref 59, .int (zI k)] (zM I A W)) (if 0 ≤ k ∧ k ≤ 1 then 0 else 2) (vRich R s k) 1 := by
  obtain ⟨d, rfl⟩ : ∃ e, d = e + 1 := ⟨d - 1, by omega⟩
  have hX' := hX
  obtain ⟨hR, hs, ⟨hV, -⟩, hL⟩ := hX
  have h5 := hR.1.1
  have e0 := hR.2.1
  rw [cl_X11_richest]
  by_cases c1 : 0 ≤ k ∧ k ≤ 1
  · rw [if_pos c1]
    refine mOut.ok (I1 := u2 I 59 0 0) (A1 := A) (fi.refl.f rfl) fr.refl u2_s ?_
    simp (implicitDefEqProofs := false) (disch := omega) only [↓rI_s, ↓rV_s, ↓rI_e, ↓rV_e, zc_eq, zc_ne, zc_lt, zc_ge, zc_gt, zc_le, zlt_t, zlt_f, zle_t, zle_f, zeq_t, zeq_f, lz, zadd, zsub, zmul, zneg, zb_e0, zb_e1, boo0, boo1, ua_s, ua_n, ua_ua, up_s, u2_s, u2_f, u2_c, u2_u2, Int.natCast_add, Int.zero_add, Int.add_zero, ↓reduceIte, ne_eq, not_true_eq_false, not_false_eq_true, Int.natCast_one, ↓k_X11_richest_0, ↓mc_59, ↓zp_59_0, s_within, s_within_f, s_isPress, s_isPress_f, s_isWink (show 2 ≤ d by omega) hR, s_isWink_f (show 2 ≤ d by omega) hR, s_isHouse (show 2 ≤ d by omega) hR, s_isHouse_f (show 2 ≤ d by omega) hR, s_may1, s_may0, m_take (show 2 ≤ d by omega)]
    refine lp_x (fun j (_ : Unit) => q_run qm_X11_richest (q_call q_MT d) 26 [.ref 59, .int (zI k), .int (zI (rcB (fun h => s (40 + h)) j)), .int (zI j)] [] (zM (u2 I 59 0 0) A W)) (fun j _ => True) (fun r => r = _) (rH R) ?_ ?_ 0 () (by omega) trivial
    · intro _ _
      rw [k_X11_richest_26]
      by_cases q : rH R = 0
      · have ev : vRich R s k = -1 := if_pos q
        have er : rcB (fun h => s (40 + h)) (rH R) = -1 := by rw [q]; rfl
        rw [ev, er]
        by_cases q2 : k = 0
        · simp (implicitDefEqProofs := false) (disch := omega) only [↓rI_s, ↓rV_s, ↓rI_e, ↓rV_e, zc_eq, zc_ne, zc_lt, zc_ge, zc_gt, zc_le, zlt_t, zlt_f, zle_t, zle_f, zeq_t, zeq_f, lz, zadd, zsub, zmul, zneg, zb_e0, zb_e1, boo0, boo1, ua_s, ua_n, ua_ua, up_s, u2_s, u2_f, u2_c, u2_u2, Int.natCast_add, Int.zero_add, Int.add_zero, ↓reduceIte, ne_eq, not_true_eq_false, not_false_eq_true, Int.natCast_one, ↓k_X11_richest_0, ↓k_X11_richest_60, ↓k_X11_richest_62, ↓k_X11_richest_77, ↓k_X11_richest_90, zp_59_0, ↓mc_59, ↓zg_59_21, ↓zg_59_42, zl_76, zs_76, ↓zn_76, e0, Int.le_refl]
        · simp (implicitDefEqProofs := false) (disch := omega) only [↓rI_s, ↓rV_s, ↓rI_e, ↓rV_e, zc_eq, zc_ne, zc_lt, zc_ge, zc_gt, zc_le, zlt_t, zlt_f, zle_t, zle_f, zeq_t, zeq_f, lz, zadd, zsub, zmul, zneg, zb_e0, zb_e1, boo0, boo1, ua_s, ua_n, ua_ua, up_s, u2_s, u2_f, u2_c, u2_u2, Int.natCast_add, Int.zero_add, Int.add_zero, ↓reduceIte, ne_eq, not_true_eq_false, not_false_eq_true, Int.natCast_one, ↓k_X11_richest_0, ↓k_X11_richest_60, ↓k_X11_richest_62, ↓k_X11_richest_77, ↓k_X11_richest_90, zp_59_0, ↓mc_59, ↓zg_59_21, ↓zg_59_42, zl_76, zs_76, ↓zn_76, e0, Int.le_refl]
      · have rb := rcB_b (fun h => s (40 + h)) (rH R) (by omega)
        have n4 := hX'.n (j := 40 + rcB (fun h => s (40 + h)) (rH R)) (by omega) (by omega)
        by_cases q2 : k = 0
        · have ev : vRich R s k = rcB (fun h => s (40 + h)) (rH R) := by unfold vRich; rw [if_neg q, if_pos q2]
          rw [ev]
          simp (implicitDefEqProofs := false) (disch := omega) only [↓rI_s, ↓rV_s, ↓rI_e, ↓rV_e, zc_eq, zc_ne, zc_lt, zc_ge, zc_gt, zc_le, zlt_t, zlt_f, zle_t, zle_f, zeq_t, zeq_f, lz, zadd, zsub, zmul, zneg, zb_e0, zb_e1, boo0, boo1, ua_s, ua_n, ua_ua, up_s, u2_s, u2_f, u2_c, u2_u2, Int.natCast_add, Int.zero_add, Int.add_zero, ↓reduceIte, ne_eq, not_true_eq_false, not_false_eq_true, Int.natCast_one, ↓k_X11_richest_0, ↓k_X11_richest_60, ↓k_X11_richest_62, ↓k_X11_richest_77, ↓k_X11_richest_90, zp_59_0, ↓mc_59, ↓zg_59_21, ↓zg_59_42, zl_76, zs_76, ↓zn_76, e0, Int.le_refl]
        · have ev : vRich R s k = s (40 + rcB (fun h => s (40 + h)) (rH R)) := by unfold vRich; rw [if_neg q, if_neg q2]
          rw [ev]
          simp (implicitDefEqProofs := false) (disch := omega) only [↓rI_s, ↓rV_s, ↓rI_e, ↓rV_e, zc_eq, zc_ne, zc_lt, zc_ge, zc_gt, zc_le, zlt_t, zlt_f, zle_t, zle_f, zeq_t, zeq_f, lz, zadd, zsub, zmul, zneg, zb_e0, zb_e1, boo0, boo1, ua_s, ua_n, ua_ua, up_s, u2_s, u2_f, u2_c, u2_u2, Int.natCast_add, Int.zero_add, Int.add_zero, ↓reduceIte, ne_eq, not_true_eq_false, not_false_eq_true, Int.natCast_one, ↓k_X11_richest_0, ↓k_X11_richest_60, ↓k_X11_richest_62, ↓k_X11_richest_77, ↓k_X11_richest_90, zp_59_0, ↓mc_59, ↓zg_59_21, ↓zg_59_42, zl_76, zs_76, ↓zn_76, e0, Int.le_refl, n4]
    · intro j _ hj _
      refine .inr ⟨(), trivial, ?_⟩
      rw [k_X11_richest_26]
      by_cases q : j = 0
      · subst q
        simp (implicitDefEqProofs := false) (disch := omega) only [↓rI_s, ↓rV_s, ↓rI_e, ↓rV_e, zc_eq, zc_ne, zc_lt, zc_ge, zc_gt, zc_le, zlt_t, zlt_f, zle_t, zle_f, zeq_t, zeq_f, lz, zadd, zsub, zmul, zneg, zb_e0, zb_e1, boo0, boo1, ua_s, ua_n, ua_ua, up_s, u2_s, u2_f, u2_c, u2_u2, Int.natCast_add, Int.zero_add, Int.add_zero, ↓reduceIte, ne_eq, not_true_eq_false, not_false_eq_true, Int.natCast_one, ↓k_X11_richest_0, ↓k_X11_richest_60, ↓k_X11_richest_62, ↓k_X11_richest_77, ↓k_X11_richest_90, zp_59_0, ↓mc_59, ↓zg_59_21, ↓zg_59_42, zl_76, zs_76, ↓zn_76, e0, show rcB (fun h => s (40 + h)) 0 = -1 from rfl, show rcB (fun h => s (40 + h)) (0 + 1) = 0 from rfl]
        rfl
      · have rb := rcB_b (fun h => s (40 + h)) j (by omega)
        have n4 := hX'.n (j := 40 + rcB (fun h => s (40 + h)) j) (by omega) (by omega)
        have n4' := hX'.n (j := 40 + j) (by omega) (by omega)
        have p4 := hV.2.2.2.2 (rcB (fun h => s (40 + h)) j) rb.1 (by omega)
        have p4' := hV.2.2.2.2 j (by omega) (by omega)
        by_cases q2 : s (40 + rcB (fun h => s (40 + h)) j) < s (40 + j)
        · have e : rcB (fun h => s (40 + h)) (j + 1) = j := if_pos (.inr q2)
          rw [e]
          simp (implicitDefEqProofs := false) (disch := omega) only [↓rI_s, ↓rV_s, ↓rI_e, ↓rV_e, zc_eq, zc_ne, zc_lt, zc_ge, zc_gt, zc_le, zlt_t, zlt_f, zle_t, zle_f, zeq_t, zeq_f, lz, zadd, zsub, zmul, zneg, zb_e0, zb_e1, boo0, boo1, ua_s, ua_n, ua_ua, up_s, u2_s, u2_f, u2_c, u2_u2, Int.natCast_add, Int.zero_add, Int.add_zero, ↓reduceIte, ne_eq, not_true_eq_false, not_false_eq_true, Int.natCast_one, ↓k_X11_richest_0, ↓k_X11_richest_60, ↓k_X11_richest_62, ↓k_X11_richest_77, ↓k_X11_richest_90, zp_59_0, ↓mc_59, ↓zg_59_21, ↓zg_59_42, zl_76, zs_76, ↓zn_76, e0, n4, n4']
        · have e : rcB (fun h => s (40 + h)) (j + 1) = rcB (fun h => s (40 + h)) j := if_neg (by dsimp only; omega)
          rw [e]
          simp (implicitDefEqProofs := false) (disch := omega) only [↓rI_s, ↓rV_s, ↓rI_e, ↓rV_e, zc_eq, zc_ne, zc_lt, zc_ge, zc_gt, zc_le, zlt_t, zlt_f, zle_t, zle_f, zeq_t, zeq_f, lz, zadd, zsub, zmul, zneg, zb_e0, zb_e1, boo0, boo1, ua_s, ua_n, ua_ua, up_s, u2_s, u2_f, u2_c, u2_u2, Int.natCast_add, Int.zero_add, Int.add_zero, ↓reduceIte, ne_eq, not_true_eq_false, not_false_eq_true, Int.natCast_one, ↓k_X11_richest_0, ↓k_X11_richest_60, ↓k_X11_richest_62, ↓k_X11_richest_77, ↓k_X11_richest_90, zp_59_0, ↓mc_59, ↓zg_59_21, ↓zg_59_42, zl_76, zs_76, ↓zn_76, e0, n4, n4']
  · rw [if_neg c1]
    exact mOut.il fr.refl (by simp (implicitDefEqProofs := false) (disch := omega) only [↓rI_s, ↓rV_s, ↓rI_e, ↓rV_e, zc_eq, zc_ne, zc_lt, zc_ge, zc_gt, zc_le, zlt_t, zlt_f, zle_t, zle_f, zeq_t, zeq_f, lz, zadd, zsub, zmul, zneg, zb_e0, zb_e1, boo0, boo1, ua_s, ua_n, ua_ua, up_s, u2_s, u2_f, u2_c, u2_u2, Int.natCast_add, Int.zero_add, Int.add_zero, ↓reduceIte, ne_eq, not_true_eq_false, not_false_eq_true, Int.natCast_one, ↓k_X11_richest_0, ↓k_X11_richest_60, ↓k_X11_richest_62, ↓k_X11_richest_77, ↓k_X11_richest_90, zp_59_0, ↓mc_59, ↓zg_59_21, ↓zg_59_42, zl_76, zs_76, ↓zn_76, ↓mc_59, ↓zp_59_0, s_within, s_within_f, s_isPress, s_isPress_f, s_isWink (show 2 ≤ d by omega) hR, s_isWink_f (show 2 ≤ d by omega) hR, s_isHouse (show 2 ≤ d by omega) hR, s_isHouse_f (show 2 ≤ d by omega) hR, s_may1, s_may0, m_take (show 2 ≤ d by omega)])
end TR
