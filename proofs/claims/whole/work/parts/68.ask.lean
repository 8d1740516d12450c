--DEPS 67.need
/-! More of what is asked of a board. -/
theorem zand (m n : Nat) : zI (m : Int) &&& zI (n : Int) = zI ((m &&& n : Nat) : Int) := by
  refine Int32.toBitVec_inj.1 ?_
  rw [Int32.toBitVec_and]
  show BitVec.ofInt 32 _ &&& BitVec.ofInt 32 _ = BitVec.ofInt 32 _
  rw [BitVec.ofInt_natCast, BitVec.ofInt_natCast, BitVec.ofInt_natCast, BitVec.ofNat_and]
theorem bts_and {n : Nat} {p q : Nat → Bool} : zI (bts n p) &&& zI (bts n q) = zI (bts n fun k => p k && q k) := by
  obtain ⟨a, ha⟩ := Int.eq_ofNat_of_zero_le (bts_lo n p)
  obtain ⟨b, hb⟩ := Int.eq_ofNat_of_zero_le (bts_lo n q)
  obtain ⟨c, hc⟩ := Int.eq_ofNat_of_zero_le (bts_lo n fun k => p k && q k)
  rw [ha, hb, hc, zand]
  have key : ∀ (r : Nat → Bool) (m : Nat), bts n r = m → ∀ i, Nat.testBit m i = (decide (i < n) && r i) := by
    intro r m hm i
    rw [Nat.testBit_eq_decide_div_mod_eq]
    by_cases hi : i < n
    · have e := bts_div (p := r) hi
      rw [hm] at e
      have e2 : ((m / 2 ^ i % 2 : Nat) : Int) = if r i = true then 1 else 0 := by
        rw [← e, Int.natCast_emod, Int.natCast_ediv, Int.natCast_pow]; rfl
      cases hr : r i
      · rw [hr, if_neg (by decide)] at e2
        have : ¬ (m / 2 ^ i % 2 = 1) := by omega
        simp [hi, this]
      · rw [hr, if_pos rfl] at e2
        have : m / 2 ^ i % 2 = 1 := by omega
        simp [hi, this]
    · have h1 := bts_hi n r
      rw [hm] at h1
      have h2 : m < 2 ^ n := by
        have : ((2 ^ n : Nat) : Int) = 2 ^ n := by rw [Int.natCast_pow]; rfl
        omega
      have h3 : m < 2 ^ i := Nat.lt_of_lt_of_le h2 (Nat.pow_le_pow_right (by decide) (by omega))
      rw [Nat.div_eq_of_lt h3]
      simp [hi]
  have : a &&& b = c := Nat.eq_of_testBit_eq fun i => by
    rw [Nat.testBit_and, key p a ha i, key q b hb i, key _ c hc i]
    cases decide (i < n) <;> simp
  rw [this]
def popN : Nat → Int → Int
  | 0, _ => 0
  | k + 1, m => popN k m + m / 2 ^ k % 2
theorem pop_d : ∀ m : Fin 1024, ∀ h : qH, q_run qm_J6_bitCount_0f7a4 (fun _ _ _ => none) 0 [.int (zI (m.val : Int))] [] h = some (.inl (some (.int (zI (popN 10 m.val)))), h) := by
  intro m h
  rw [k_J6_bitCount_0f7a4_0]
  refine congrArg (fun v => some (Sum.inl (some (Value.int v)), h)) ?_
  revert m
  decide +kernel
theorem bts_pop {n : Nat} (hn : n ≤ 10) {p : Nat → Bool} : popN 10 (bts n p) = cnt n p := by
  have h1 : ∀ k, k ≤ n → popN k (bts n p) = cnt k p := by
    intro k
    induction k with
    | zero => intro _; rfl
    | succ k ih =>
      intro hk
      show popN k (bts n p) + bts n p / 2 ^ k % 2 = cnt k p + (if p k = true then 1 else 0)
      rw [ih (by omega), bts_div (by omega)]
  have h2 : ∀ k, popN (n + k) (bts n p) = cnt n p := by
    intro k
    induction k with
    | zero => exact h1 n (Nat.le_refl n)
    | succ k ih =>
      show popN (n + k) (bts n p) + bts n p / 2 ^ (n + k) % 2 = _
      have e : bts n p / 2 ^ (n + k) = 0 := Int.ediv_eq_zero_of_lt (bts_lo n p) (by
        have a := bts_hi n p
        have b : (2 : Int) ^ (n + k) = 2 ^ n * 2 ^ k := Int.pow_add 2 n k
        have c : (0 : Int) < 2 ^ k := Int.pow_pos (by decide)
        have e : (0 : Int) < 2 ^ n := Int.pow_pos (by decide)
        have := Int.mul_le_mul_of_nonneg_left (show (1 : Int) ≤ 2 ^ k by omega) (show (0 : Int) ≤ 2 ^ n by omega)
        omega)
      rw [ih, e]; exact Int.add_zero _
  have := h2 (10 - n)
  rwa [show n + (10 - n) = 10 by omega] at this
def gvn (co : Int → Int) (b : Int) : Nat → Int
  | 0 => 0
  | n + 1 => gvn co b n + (if b < co n then b else co n)
section AK
variable {d : Nat} {I : Nat → Nat → Int} {A : Nat → Int → Int} {W : qWt} {R : zR} {F : zF} {s : Int → Int} {kx : Nat → Nat → qH → qR} {k : Int32 → qH → qR}
theorem j_bitCount {h : qH} {n : Nat} {p : Nat → Bool} (hd : 1 ≤ d) (hn : n ≤ 10) : q_call q_MT d 310 [.int (zI (bts n p))] h = some (.inl (some (.int (zI (cnt n p)))), h) := by
  obtain ⟨d, rfl⟩ : ∃ e, d = e + 1 := ⟨d - 1, by omega⟩
  have b := bts_b hn p
  obtain ⟨m, hm⟩ := Int.eq_ofNat_of_zero_le b.1
  have e := pop_d ⟨m, by omega⟩ h
  rw [k_J6_bitCount_0f7a4_0] at e
  rw [cl_J6_bitCount_0f7a4, k_J6_bitCount_0f7a4_0, ← bts_pop hn, hm]
  exact e
theorem c_winksOf {h : Int} (hd : 1 ≤ d) (hR : cR R I A) (h0 : -100 ≤ h ∧ h ≤ 100) : q_rI (q_call q_MT d 77 [.ref 5, .int (zI h)] (zM I A W)) kx k = k (zI (bts (rW R) fun w => decide (rO R w = h))) (zM I A W) := by
  obtain ⟨d, rfl⟩ : ∃ e, d = e + 1 := ⟨d - 1, by omega⟩
  have hw := hR.1.2.1
  have h5 := hR.1.1
  have hn := hR.2.2.1
  refine cI ?_
  rw [cl_X6_winksOf]
  simp (implicitDefEqProofs := false) (disch := omega) only [↓rI_s, ↓rV_s, ↓rI_e, ↓rV_e, zc_eq, zc_ne, zc_lt, zc_ge, zc_gt, zc_le, zlt_t, zlt_f, zle_t, zle_f, zeq_t, zeq_f, lz, zadd, zsub, zmul, zneg, zb_e0, zb_e1, boo0, boo1, ua_s, ua_n, ua_ua, up_s, u2_s, u2_f, u2_c, u2_u2, Int.natCast_add, Int.zero_add, Int.add_zero, ↓reduceIte, ne_eq, not_true_eq_false, not_false_eq_true, Int.natCast_one, ↓k_X6_winksOf_0, ↓k_X6_winksOf_28, ↓zg_5_1, ↓zg_5_6, zl_7, zs_7, ↓zn_7]
  refine lp_x (fun j (a : Int) => q_run qm_X6_winksOf (q_call q_MT d) 4 [.ref 5, .int (zI h), .int (zI a), .int (zI j)] [] (zM I A W)) (fun j a => a = bts j fun w => decide (rO R w = h)) (fun r => r = _) (rW R) ?_ ?_ 0 0 (by omega) rfl
  · rintro a rfl
    rw [k_X6_winksOf_4]
    simp (implicitDefEqProofs := false) (disch := omega) only [↓rI_s, ↓rV_s, ↓rI_e, ↓rV_e, zc_eq, zc_ne, zc_lt, zc_ge, zc_gt, zc_le, zlt_t, zlt_f, zle_t, zle_f, zeq_t, zeq_f, lz, zadd, zsub, zmul, zneg, zb_e0, zb_e1, boo0, boo1, ua_s, ua_n, ua_ua, up_s, u2_s, u2_f, u2_c, u2_u2, Int.natCast_add, Int.zero_add, Int.add_zero, ↓reduceIte, ne_eq, not_true_eq_false, not_false_eq_true, Int.natCast_one, ↓k_X6_winksOf_0, ↓k_X6_winksOf_28, ↓zg_5_1, ↓zg_5_6, zl_7, zs_7, ↓zn_7, hn, Int.le_refl]
  · rintro j a hj rfl
    refine .inr ⟨_, rfl, ?_⟩
    have eo := hR.2.2.2.2.2.2.1 j (by omega) (by omega)
    have bo := hR.1.o (w := j) (by omega) (by omega)
    rw [k_X6_winksOf_4]
    by_cases q : rO R j = h
    · simp (implicitDefEqProofs := false) (disch := omega) only [↓rI_s, ↓rV_s, ↓rI_e, ↓rV_e, zc_eq, zc_ne, zc_lt, zc_ge, zc_gt, zc_le, zlt_t, zlt_f, zle_t, zle_f, zeq_t, zeq_f, lz, zadd, zsub, zmul, zneg, zb_e0, zb_e1, boo0, boo1, ua_s, ua_n, ua_ua, up_s, u2_s, u2_f, u2_c, u2_u2, Int.natCast_add, Int.zero_add, Int.add_zero, ↓reduceIte, ne_eq, not_true_eq_false, not_false_eq_true, Int.natCast_one, ↓k_X6_winksOf_0, ↓k_X6_winksOf_28, ↓zg_5_1, ↓zg_5_6, zl_7, zs_7, ↓zn_7, hn, eo, q, bts_t (p := fun w => decide (rO R w = h)) (show j < 10 by omega) (decide_eq_true q)]
    · have e : bts (j + 1) (fun w => decide (rO R w = h)) = bts j fun w => decide (rO R w = h) := by
        show bts j _ + (if _ then _ else 0) = _
        rw [if_neg (by simpa using q)]; omega
      rw [e]
      simp (implicitDefEqProofs := false) (disch := omega) only [↓rI_s, ↓rV_s, ↓rI_e, ↓rV_e, zc_eq, zc_ne, zc_lt, zc_ge, zc_gt, zc_le, zlt_t, zlt_f, zle_t, zle_f, zeq_t, zeq_f, lz, zadd, zsub, zmul, zneg, zb_e0, zb_e1, boo0, boo1, ua_s, ua_n, ua_ua, up_s, u2_s, u2_f, u2_c, u2_u2, Int.natCast_add, Int.zero_add, Int.add_zero, ↓reduceIte, ne_eq, not_true_eq_false, not_false_eq_true, Int.natCast_one, ↓k_X6_winksOf_0, ↓k_X6_winksOf_28, ↓zg_5_1, ↓zg_5_6, zl_7, zs_7, ↓zn_7, hn, eo]
theorem c24_frozenBits (hd : 3 ≤ d) (hR : cR R I A) (hB : bR R s (A 25) (A 26) (A 27) (A 28) (A 29) (I 24 7) (I 24 8)) (hs : sP R s) : q_rI (q_call q_MT d 27 [.ref 24] (zM I A W)) kx k = k (zI (bts (rW R) fun w => decide (0 < over R s w))) (zM I A W) := by
  obtain ⟨d, rfl⟩ : ∃ e, d = e + 1 := ⟨d - 1, by omega⟩
  have hw := hR.1.2.1
  have hn := hR.2.2.1
  refine cI ?_
  rw [cl_X1_frozenBits]
  simp (implicitDefEqProofs := false) (disch := omega) only [↓rI_s, ↓rV_s, ↓rI_e, ↓rV_e, zc_eq, zc_ne, zc_lt, zc_ge, zc_gt, zc_le, zlt_t, zlt_f, zle_t, zle_f, zeq_t, zeq_f, lz, zadd, zsub, zmul, zneg, zb_e0, zb_e1, boo0, boo1, ua_s, ua_n, ua_ua, up_s, u2_s, u2_f, u2_c, u2_u2, Int.natCast_add, Int.zero_add, Int.add_zero, ↓reduceIte, ne_eq, not_true_eq_false, not_false_eq_true, Int.natCast_one, ↓k_X1_frozenBits_0, ↓k_X1_frozenBits_31, ↓zg_24_0, ↓zg_5_1, ↓mc_24, ↓mc_30]
  refine lp_x (fun j (a : Int) => q_run qm_X1_frozenBits (q_call q_MT d) 4 [.ref 24, .int (zI a), .int (zI j)] [] (zM I A W)) (fun j a => a = bts j fun w => decide (0 < over R s w)) (fun r => r = _) (rW R) ?_ ?_ 0 0 (by omega) rfl
  · rintro a rfl
    rw [k_X1_frozenBits_4]
    simp (implicitDefEqProofs := false) (disch := omega) only [↓rI_s, ↓rV_s, ↓rI_e, ↓rV_e, zc_eq, zc_ne, zc_lt, zc_ge, zc_gt, zc_le, zlt_t, zlt_f, zle_t, zle_f, zeq_t, zeq_f, lz, zadd, zsub, zmul, zneg, zb_e0, zb_e1, boo0, boo1, ua_s, ua_n, ua_ua, up_s, u2_s, u2_f, u2_c, u2_u2, Int.natCast_add, Int.zero_add, Int.add_zero, ↓reduceIte, ne_eq, not_true_eq_false, not_false_eq_true, Int.natCast_one, ↓k_X1_frozenBits_0, ↓k_X1_frozenBits_31, ↓zg_24_0, ↓zg_5_1, ↓mc_24, ↓mc_30, hn, Int.le_refl]
  · rintro j a hj rfl
    refine .inr ⟨_, rfl, ?_⟩
    rw [k_X1_frozenBits_4]
    simp (implicitDefEqProofs := false) (disch := omega) only [↓rI_s, ↓rV_s, ↓rI_e, ↓rV_e, zc_eq, zc_ne, zc_lt, zc_ge, zc_gt, zc_le, zlt_t, zlt_f, zle_t, zle_f, zeq_t, zeq_f, lz, zadd, zsub, zmul, zneg, zb_e0, zb_e1, boo0, boo1, ua_s, ua_n, ua_ua, up_s, u2_s, u2_f, u2_c, u2_u2, Int.natCast_add, Int.zero_add, Int.add_zero, ↓reduceIte, ne_eq, not_true_eq_false, not_false_eq_true, Int.natCast_one, ↓k_X1_frozenBits_0, ↓k_X1_frozenBits_31, ↓zg_24_0, ↓zg_5_1, ↓mc_24, ↓mc_30, hn]
    rw [c24_isFrozen (by omega) hR hB hs (by omega) (by omega)]
    by_cases h : 0 < over R s j
    · rw [zb_t h]
      simp (implicitDefEqProofs := false) (disch := omega) only [↓rI_s, ↓rV_s, ↓rI_e, ↓rV_e, zc_eq, zc_ne, zc_lt, zc_ge, zc_gt, zc_le, zlt_t, zlt_f, zle_t, zle_f, zeq_t, zeq_f, lz, zadd, zsub, zmul, zneg, zb_e0, zb_e1, boo0, boo1, ua_s, ua_n, ua_ua, up_s, u2_s, u2_f, u2_c, u2_u2, Int.natCast_add, Int.zero_add, Int.add_zero, ↓reduceIte, ne_eq, not_true_eq_false, not_false_eq_true, Int.natCast_one, ↓k_X1_frozenBits_0, ↓k_X1_frozenBits_31, ↓zg_24_0, ↓zg_5_1, ↓mc_24, ↓mc_30, bts_t (p := fun w => decide (0 < over R s w)) (show j < 10 by omega) (decide_eq_true h)]
    · rw [zb_f h]
      simp (implicitDefEqProofs := false) (disch := omega) only [↓rI_s, ↓rV_s, ↓rI_e, ↓rV_e, zc_eq, zc_ne, zc_lt, zc_ge, zc_gt, zc_le, zlt_t, zlt_f, zle_t, zle_f, zeq_t, zeq_f, lz, zadd, zsub, zmul, zneg, zb_e0, zb_e1, boo0, boo1, ua_s, ua_n, ua_ua, up_s, u2_s, u2_f, u2_c, u2_u2, Int.natCast_add, Int.zero_add, Int.add_zero, ↓reduceIte, ne_eq, not_true_eq_false, not_false_eq_true, Int.natCast_one, ↓k_X1_frozenBits_0, ↓k_X1_frozenBits_31, ↓zg_24_0, ↓zg_5_1, ↓mc_24, ↓mc_30, bts_f (p := fun w => decide (0 < over R s w)) (j := j) (by simpa using h)]
theorem c24_inCupBits (hd : 1 ≤ d) (hR : cR R I A) (hB : bR R s (A 25) (A 26) (A 27) (A 28) (A 29) (I 24 7) (I 24 8)) (hs : sP R s) : q_rI (q_call q_MT d 28 [.ref 24] (zM I A W)) kx k = k (zI (bts (rW R) fun w => decide (s w = -3))) (zM I A W) := by
  obtain ⟨d, rfl⟩ : ∃ e, d = e + 1 := ⟨d - 1, by omega⟩
  have hw := hR.1.2.1
  have hf := hR.1.2.2.2.2.1
  have hc4 := hR.1.2.2.1
  have hn := hR.2.2.1
  refine cI ?_
  rw [cl_X1_inCupBits]
  simp (implicitDefEqProofs := false) (disch := omega) only [↓rI_s, ↓rV_s, ↓rI_e, ↓rV_e, zc_eq, zc_ne, zc_lt, zc_ge, zc_gt, zc_le, zlt_t, zlt_f, zle_t, zle_f, zeq_t, zeq_f, lz, zadd, zsub, zmul, zneg, zb_e0, zb_e1, boo0, boo1, ua_s, ua_n, ua_ua, up_s, u2_s, u2_f, u2_c, u2_u2, Int.natCast_add, Int.zero_add, Int.add_zero, ↓reduceIte, ne_eq, not_true_eq_false, not_false_eq_true, Int.natCast_one, ↓k_X1_inCupBits_0, ↓k_X1_inCupBits_34, ↓zg_24_0, ↓zg_5_1, ↓zg_24_2, zl_25, zs_25, ↓zn_25]
  refine lp_x (fun j (a : Int) => q_run qm_X1_inCupBits (q_call q_MT d) 4 [.ref 24, .int (zI a), .int (zI j)] [] (zM I A W)) (fun j a => a = bts j fun w => decide (s w = -3)) (fun r => r = _) (rW R) ?_ ?_ 0 0 (by omega) rfl
  · rintro a rfl
    rw [k_X1_inCupBits_4]
    simp (implicitDefEqProofs := false) (disch := omega) only [↓rI_s, ↓rV_s, ↓rI_e, ↓rV_e, zc_eq, zc_ne, zc_lt, zc_ge, zc_gt, zc_le, zlt_t, zlt_f, zle_t, zle_f, zeq_t, zeq_f, lz, zadd, zsub, zmul, zneg, zb_e0, zb_e1, boo0, boo1, ua_s, ua_n, ua_ua, up_s, u2_s, u2_f, u2_c, u2_u2, Int.natCast_add, Int.zero_add, Int.add_zero, ↓reduceIte, ne_eq, not_true_eq_false, not_false_eq_true, Int.natCast_one, ↓k_X1_inCupBits_0, ↓k_X1_inCupBits_34, ↓zg_24_0, ↓zg_5_1, ↓zg_24_2, zl_25, zs_25, ↓zn_25, hn, Int.le_refl]
  · rintro j a hj rfl
    refine .inr ⟨_, rfl, ?_⟩
    have bj := hB.1 j (by omega) (by omega)
    have ej := enc_f hs (w := j) (by omega) (by omega)
    have pj := hs j (by omega) (by omega)
    rw [k_X1_inCupBits_4]
    by_cases h : s j = -3
    · simp (implicitDefEqProofs := false) (disch := omega) only [↓rI_s, ↓rV_s, ↓rI_e, ↓rV_e, zc_eq, zc_ne, zc_lt, zc_ge, zc_gt, zc_le, zlt_t, zlt_f, zle_t, zle_f, zeq_t, zeq_f, lz, zadd, zsub, zmul, zneg, zb_e0, zb_e1, boo0, boo1, ua_s, ua_n, ua_ua, up_s, u2_s, u2_f, u2_c, u2_u2, Int.natCast_add, Int.zero_add, Int.add_zero, ↓reduceIte, ne_eq, not_true_eq_false, not_false_eq_true, Int.natCast_one, ↓k_X1_inCupBits_0, ↓k_X1_inCupBits_34, ↓zg_24_0, ↓zg_5_1, ↓zg_24_2, zl_25, zs_25, ↓zn_25, hn, bts_t (p := fun w => decide (s w = -3)) (show j < 10 by omega) (decide_eq_true h)]
    · simp (implicitDefEqProofs := false) (disch := omega) only [↓rI_s, ↓rV_s, ↓rI_e, ↓rV_e, zc_eq, zc_ne, zc_lt, zc_ge, zc_gt, zc_le, zlt_t, zlt_f, zle_t, zle_f, zeq_t, zeq_f, lz, zadd, zsub, zmul, zneg, zb_e0, zb_e1, boo0, boo1, ua_s, ua_n, ua_ua, up_s, u2_s, u2_f, u2_c, u2_u2, Int.natCast_add, Int.zero_add, Int.add_zero, ↓reduceIte, ne_eq, not_true_eq_false, not_false_eq_true, Int.natCast_one, ↓k_X1_inCupBits_0, ↓k_X1_inCupBits_34, ↓zg_24_0, ↓zg_5_1, ↓zg_24_2, zl_25, zs_25, ↓zn_25, hn, bts_f (p := fun w => decide (s w = -3)) (j := j) (by simpa using h)]
theorem c24_floorBits (hd : 1 ≤ d) (hR : cR R I A) (hB : bR R s (A 25) (A 26) (A 27) (A 28) (A 29) (I 24 7) (I 24 8)) (hs : sP R s) : q_rI (q_call q_MT d 29 [.ref 24] (zM I A W)) kx k = k (zI (bts (rW R) fun w => decide (s w = -2))) (zM I A W) := by
  obtain ⟨d, rfl⟩ : ∃ e, d = e + 1 := ⟨d - 1, by omega⟩
  have hw := hR.1.2.1
  have hf := hR.1.2.2.2.2.1
  have hc4 := hR.1.2.2.1
  have hn := hR.2.2.1
  refine cI ?_
  rw [cl_X1_floorBits]
  simp (implicitDefEqProofs := false) (disch := omega) only [↓rI_s, ↓rV_s, ↓rI_e, ↓rV_e, zc_eq, zc_ne, zc_lt, zc_ge, zc_gt, zc_le, zlt_t, zlt_f, zle_t, zle_f, zeq_t, zeq_f, lz, zadd, zsub, zmul, zneg, zb_e0, zb_e1, boo0, boo1, ua_s, ua_n, ua_ua, up_s, u2_s, u2_f, u2_c, u2_u2, Int.natCast_add, Int.zero_add, Int.add_zero, ↓reduceIte, ne_eq, not_true_eq_false, not_false_eq_true, Int.natCast_one, ↓k_X1_floorBits_0, ↓k_X1_floorBits_34, ↓zg_24_0, ↓zg_5_1, ↓zg_24_2, zl_25, zs_25, ↓zn_25]
  refine lp_x (fun j (a : Int) => q_run qm_X1_floorBits (q_call q_MT d) 4 [.ref 24, .int (zI a), .int (zI j)] [] (zM I A W)) (fun j a => a = bts j fun w => decide (s w = -2)) (fun r => r = _) (rW R) ?_ ?_ 0 0 (by omega) rfl
  · rintro a rfl
    rw [k_X1_floorBits_4]
    simp (implicitDefEqProofs := false) (disch := omega) only [↓rI_s, ↓rV_s, ↓rI_e, ↓rV_e, zc_eq, zc_ne, zc_lt, zc_ge, zc_gt, zc_le, zlt_t, zlt_f, zle_t, zle_f, zeq_t, zeq_f, lz, zadd, zsub, zmul, zneg, zb_e0, zb_e1, boo0, boo1, ua_s, ua_n, ua_ua, up_s, u2_s, u2_f, u2_c, u2_u2, Int.natCast_add, Int.zero_add, Int.add_zero, ↓reduceIte, ne_eq, not_true_eq_false, not_false_eq_true, Int.natCast_one, ↓k_X1_floorBits_0, ↓k_X1_floorBits_34, ↓zg_24_0, ↓zg_5_1, ↓zg_24_2, zl_25, zs_25, ↓zn_25, hn, Int.le_refl]
  · rintro j a hj rfl
    refine .inr ⟨_, rfl, ?_⟩
    have bj := hB.1 j (by omega) (by omega)
    have ej := enc_f hs (w := j) (by omega) (by omega)
    have pj := hs j (by omega) (by omega)
    rw [k_X1_floorBits_4]
    by_cases h : s j = -2
    · simp (implicitDefEqProofs := false) (disch := omega) only [↓rI_s, ↓rV_s, ↓rI_e, ↓rV_e, zc_eq, zc_ne, zc_lt, zc_ge, zc_gt, zc_le, zlt_t, zlt_f, zle_t, zle_f, zeq_t, zeq_f, lz, zadd, zsub, zmul, zneg, zb_e0, zb_e1, boo0, boo1, ua_s, ua_n, ua_ua, up_s, u2_s, u2_f, u2_c, u2_u2, Int.natCast_add, Int.zero_add, Int.add_zero, ↓reduceIte, ne_eq, not_true_eq_false, not_false_eq_true, Int.natCast_one, ↓k_X1_floorBits_0, ↓k_X1_floorBits_34, ↓zg_24_0, ↓zg_5_1, ↓zg_24_2, zl_25, zs_25, ↓zn_25, hn, bts_t (p := fun w => decide (s w = -2)) (show j < 10 by omega) (decide_eq_true h)]
    · simp (implicitDefEqProofs := false) (disch := omega) only [↓rI_s, ↓rV_s, ↓rI_e, ↓rV_e, zc_eq, zc_ne, zc_lt, zc_ge, zc_gt, zc_le, zlt_t, zlt_f, zle_t, zle_f, zeq_t, zeq_f, lz, zadd, zsub, zmul, zneg, zb_e0, zb_e1, boo0, boo1, ua_s, ua_n, ua_ua, up_s, u2_s, u2_f, u2_c, u2_u2, Int.natCast_add, Int.zero_add, Int.add_zero, ↓reduceIte, ne_eq, not_true_eq_false, not_false_eq_true, Int.natCast_one, ↓k_X1_floorBits_0, ↓k_X1_floorBits_34, ↓zg_24_0, ↓zg_5_1, ↓zg_24_2, zl_25, zs_25, ↓zn_25, hn, bts_f (p := fun w => decide (s w = -2)) (j := j) (by simpa using h)]
theorem c24_howManyIn {c : Int} (hd : 1 ≤ d) (hR : cR R I A) (hB : bR R s (A 25) (A 26) (A 27) (A 28) (A 29) (I 24 7) (I 24 8)) (hs : sP R s) (h0 : 0 ≤ c ∧ c ≤ 100) : q_rI (q_call q_MT d 30 [.ref 24, .int (zI c)] (zM I A W)) kx k = k (zI (cnt (rW R) fun w => decide (s w = -3 ∧ s (30 + w) = c))) (zM I A W) := by
  obtain ⟨d, rfl⟩ : ∃ e, d = e + 1 := ⟨d - 1, by omega⟩
  have hw := hR.1.2.1
  have hf := hR.1.2.2.2.2.1
  have hc4 := hR.1.2.2.1
  have hn := hR.2.2.1
  refine cI ?_
  rw [cl_X1_howManyIn]
  simp (implicitDefEqProofs := false) (disch := omega) only [↓rI_s, ↓rV_s, ↓rI_e, ↓rV_e, zc_eq, zc_ne, zc_lt, zc_ge, zc_gt, zc_le, zlt_t, zlt_f, zle_t, zle_f, zeq_t, zeq_f, lz, zadd, zsub, zmul, zneg, zb_e0, zb_e1, boo0, boo1, ua_s, ua_n, ua_ua, up_s, u2_s, u2_f, u2_c, u2_u2, Int.natCast_add, Int.zero_add, Int.add_zero, ↓reduceIte, ne_eq, not_true_eq_false, not_false_eq_true, Int.natCast_one, ↓k_X1_howManyIn_0, ↓k_X1_howManyIn_34, ↓zg_24_0, ↓zg_5_1, ↓zg_24_2, zl_25, zs_25, ↓zn_25]
  refine lp_x (fun j (a : Int) => q_run qm_X1_howManyIn (q_call q_MT d) 4 [.ref 24, .int (zI c), .int (zI a), .int (zI j)] [] (zM I A W)) (fun j a => a = cnt j fun w => decide (s w = -3 ∧ s (30 + w) = c)) (fun r => r = _) (rW R) ?_ ?_ 0 0 (by omega) rfl
  · rintro a rfl
    rw [k_X1_howManyIn_4]
    simp (implicitDefEqProofs := false) (disch := omega) only [↓rI_s, ↓rV_s, ↓rI_e, ↓rV_e, zc_eq, zc_ne, zc_lt, zc_ge, zc_gt, zc_le, zlt_t, zlt_f, zle_t, zle_f, zeq_t, zeq_f, lz, zadd, zsub, zmul, zneg, zb_e0, zb_e1, boo0, boo1, ua_s, ua_n, ua_ua, up_s, u2_s, u2_f, u2_c, u2_u2, Int.natCast_add, Int.zero_add, Int.add_zero, ↓reduceIte, ne_eq, not_true_eq_false, not_false_eq_true, Int.natCast_one, ↓k_X1_howManyIn_0, ↓k_X1_howManyIn_34, ↓zg_24_0, ↓zg_5_1, ↓zg_24_2, zl_25, zs_25, ↓zn_25, hn, Int.le_refl]
  · rintro j a hj rfl
    refine .inr ⟨_, rfl, ?_⟩
    have bj := hB.1 j (by omega) (by omega)
    have ej := enc_f hs (w := j) (by omega) (by omega)
    have pj := hs j (by omega) (by omega)
    rw [k_X1_howManyIn_4]
    by_cases h : s j = -3 ∧ s (30 + j) = c
    · simp (implicitDefEqProofs := false) (disch := omega) only [↓rI_s, ↓rV_s, ↓rI_e, ↓rV_e, zc_eq, zc_ne, zc_lt, zc_ge, zc_gt, zc_le, zlt_t, zlt_f, zle_t, zle_f, zeq_t, zeq_f, lz, zadd, zsub, zmul, zneg, zb_e0, zb_e1, boo0, boo1, ua_s, ua_n, ua_ua, up_s, u2_s, u2_f, u2_c, u2_u2, Int.natCast_add, Int.zero_add, Int.add_zero, ↓reduceIte, ne_eq, not_true_eq_false, not_false_eq_true, Int.natCast_one, ↓k_X1_howManyIn_0, ↓k_X1_howManyIn_34, ↓zg_24_0, ↓zg_5_1, ↓zg_24_2, zl_25, zs_25, ↓zn_25, hn]
      rw [cnt_t (decide_eq_true h)]
    · simp (implicitDefEqProofs := false) (disch := omega) only [↓rI_s, ↓rV_s, ↓rI_e, ↓rV_e, zc_eq, zc_ne, zc_lt, zc_ge, zc_gt, zc_le, zlt_t, zlt_f, zle_t, zle_f, zeq_t, zeq_f, lz, zadd, zsub, zmul, zneg, zb_e0, zb_e1, boo0, boo1, ua_s, ua_n, ua_ua, up_s, u2_s, u2_f, u2_c, u2_u2, Int.natCast_add, Int.zero_add, Int.add_zero, ↓reduceIte, ne_eq, not_true_eq_false, not_false_eq_true, Int.natCast_one, ↓k_X1_howManyIn_0, ↓k_X1_howManyIn_34, ↓zg_24_0, ↓zg_5_1, ↓zg_24_2, zl_25, zs_25, ↓zn_25, hn]
      rw [cnt_f (by simpa using h)]
theorem c24_givenWithin {b : Int} (hd : 1 ≤ d) (hR : cR R I A) (hB : bR R s (A 25) (A 26) (A 27) (A 28) (A 29) (I 24 7) (I 24 8)) (hs : sP R s) (hV : sV R s) (h0 : 0 ≤ b ∧ b ≤ 100000) : q_rI (q_call q_MT d 32 [.ref 24, .int (zI b)] (zM I A W)) kx k = k (zI (gvn (fun h => s (40 + h)) b (rH R))) (zM I A W) := by
  obtain ⟨d, rfl⟩ : ∃ e, d = e + 1 := ⟨d - 1, by omega⟩
  have h5 := hR.1.1
  have hn := hR.2.1
  refine cI ?_
  rw [cl_X1_givenWithin]
  simp (implicitDefEqProofs := false) (disch := omega) only [↓rI_s, ↓rV_s, ↓rI_e, ↓rV_e, zc_eq, zc_ne, zc_lt, zc_ge, zc_gt, zc_le, zlt_t, zlt_f, zle_t, zle_f, zeq_t, zeq_f, lz, zadd, zsub, zmul, zneg, zb_e0, zb_e1, boo0, boo1, ua_s, ua_n, ua_ua, up_s, u2_s, u2_f, u2_c, u2_u2, Int.natCast_add, Int.zero_add, Int.add_zero, ↓reduceIte, ne_eq, not_true_eq_false, not_false_eq_true, Int.natCast_one, ↓k_X1_givenWithin_0, ↓zg_24_0, ↓zg_5_0, ↓zg_24_5, zl_28, zs_28, ↓zn_28]
  refine lp_x (fun j (a : Int) => q_run qm_X1_givenWithin (q_call q_MT d) 4 [.ref 24, .int (zI b), .int (zI a), .int (zI j)] [] (zM I A W)) (fun j a => a = gvn (fun h => s (40 + h)) b j) (fun r => r = _) (rH R) ?_ ?_ 0 0 (by omega) rfl
  · rintro a rfl
    rw [k_X1_givenWithin_4]
    simp (implicitDefEqProofs := false) (disch := omega) only [↓rI_s, ↓rV_s, ↓rI_e, ↓rV_e, zc_eq, zc_ne, zc_lt, zc_ge, zc_gt, zc_le, zlt_t, zlt_f, zle_t, zle_f, zeq_t, zeq_f, lz, zadd, zsub, zmul, zneg, zb_e0, zb_e1, boo0, boo1, ua_s, ua_n, ua_ua, up_s, u2_s, u2_f, u2_c, u2_u2, Int.natCast_add, Int.zero_add, Int.add_zero, ↓reduceIte, ne_eq, not_true_eq_false, not_false_eq_true, Int.natCast_one, ↓k_X1_givenWithin_0, ↓zg_24_0, ↓zg_5_0, ↓zg_24_5, zl_28, zs_28, ↓zn_28, hn, Int.le_refl]
  · rintro j a hj rfl
    refine .inr ⟨_, rfl, ?_⟩
    have bj := hB.2.2.2.1 j (by omega) (by omega)
    have pj := hV.2.2.2.2 j (by omega) (by omega)
    rw [k_X1_givenWithin_4]
    simp (implicitDefEqProofs := false) (disch := omega) only [↓rI_s, ↓rV_s, ↓rI_e, ↓rV_e, zc_eq, zc_ne, zc_lt, zc_ge, zc_gt, zc_le, zlt_t, zlt_f, zle_t, zle_f, zeq_t, zeq_f, lz, zadd, zsub, zmul, zneg, zb_e0, zb_e1, boo0, boo1, ua_s, ua_n, ua_ua, up_s, u2_s, u2_f, u2_c, u2_u2, Int.natCast_add, Int.zero_add, Int.add_zero, ↓reduceIte, ne_eq, not_true_eq_false, not_false_eq_true, Int.natCast_one, ↓k_X1_givenWithin_0, ↓zg_24_0, ↓zg_5_0, ↓zg_24_5, zl_28, zs_28, ↓zn_28, hn, bj, zif]
    rfl
theorem c30_frozenBits (hd : 3 ≤ d) (hR : cR R I A) (hB : bR R s (A 31) (A 32) (A 33) (A 34) (A 35) (I 30 7) (I 30 8)) (hs : sP R s) : q_rI (q_call q_MT d 27 [.ref 30] (zM I A W)) kx k = k (zI (bts (rW R) fun w => decide (0 < over R s w))) (zM I A W) := by
  obtain ⟨d, rfl⟩ : ∃ e, d = e + 1 := ⟨d - 1, by omega⟩
  have hw := hR.1.2.1
  have hn := hR.2.2.1
  refine cI ?_
  rw [cl_X1_frozenBits]
  simp (implicitDefEqProofs := false) (disch := omega) only [↓rI_s, ↓rV_s, ↓rI_e, ↓rV_e, zc_eq, zc_ne, zc_lt, zc_ge, zc_gt, zc_le, zlt_t, zlt_f, zle_t, zle_f, zeq_t, zeq_f, lz, zadd, zsub, zmul, zneg, zb_e0, zb_e1, boo0, boo1, ua_s, ua_n, ua_ua, up_s, u2_s, u2_f, u2_c, u2_u2, Int.natCast_add, Int.zero_add, Int.add_zero, ↓reduceIte, ne_eq, not_true_eq_false, not_false_eq_true, Int.natCast_one, ↓k_X1_frozenBits_0, ↓k_X1_frozenBits_31, ↓zg_30_0, ↓zg_5_1, ↓mc_24, ↓mc_30]
  refine lp_x (fun j (a : Int) => q_run qm_X1_frozenBits (q_call q_MT d) 4 [.ref 30, .int (zI a), .int (zI j)] [] (zM I A W)) (fun j a => a = bts j fun w => decide (0 < over R s w)) (fun r => r = _) (rW R) ?_ ?_ 0 0 (by omega) rfl
  · rintro a rfl
    rw [k_X1_frozenBits_4]
    simp (implicitDefEqProofs := false) (disch := omega) only [↓rI_s, ↓rV_s, ↓rI_e, ↓rV_e, zc_eq, zc_ne, zc_lt, zc_ge, zc_gt, zc_le, zlt_t, zlt_f, zle_t, zle_f, zeq_t, zeq_f, lz, zadd, zsub, zmul, zneg, zb_e0, zb_e1, boo0, boo1, ua_s, ua_n, ua_ua, up_s, u2_s, u2_f, u2_c, u2_u2, Int.natCast_add, Int.zero_add, Int.add_zero, ↓reduceIte, ne_eq, not_true_eq_false, not_false_eq_true, Int.natCast_one, ↓k_X1_frozenBits_0, ↓k_X1_frozenBits_31, ↓zg_30_0, ↓zg_5_1, ↓mc_24, ↓mc_30, hn, Int.le_refl]
  · rintro j a hj rfl
    refine .inr ⟨_, rfl, ?_⟩
    rw [k_X1_frozenBits_4]
    simp (implicitDefEqProofs := false) (disch := omega) only [↓rI_s, ↓rV_s, ↓rI_e, ↓rV_e, zc_eq, zc_ne, zc_lt, zc_ge, zc_gt, zc_le, zlt_t, zlt_f, zle_t, zle_f, zeq_t, zeq_f, lz, zadd, zsub, zmul, zneg, zb_e0, zb_e1, boo0, boo1, ua_s, ua_n, ua_ua, up_s, u2_s, u2_f, u2_c, u2_u2, Int.natCast_add, Int.zero_add, Int.add_zero, ↓reduceIte, ne_eq, not_true_eq_false, not_false_eq_true, Int.natCast_one, ↓k_X1_frozenBits_0, ↓k_X1_frozenBits_31, ↓zg_30_0, ↓zg_5_1, ↓mc_24, ↓mc_30, hn]
    rw [c30_isFrozen (by omega) hR hB hs (by omega) (by omega)]
    by_cases h : 0 < over R s j
    · rw [zb_t h]
      simp (implicitDefEqProofs := false) (disch := omega) only [↓rI_s, ↓rV_s, ↓rI_e, ↓rV_e, zc_eq, zc_ne, zc_lt, zc_ge, zc_gt, zc_le, zlt_t, zlt_f, zle_t, zle_f, zeq_t, zeq_f, lz, zadd, zsub, zmul, zneg, zb_e0, zb_e1, boo0, boo1, ua_s, ua_n, ua_ua, up_s, u2_s, u2_f, u2_c, u2_u2, Int.natCast_add, Int.zero_add, Int.add_zero, ↓reduceIte, ne_eq, not_true_eq_false, not_false_eq_true, Int.natCast_one, ↓k_X1_frozenBits_0, ↓k_X1_frozenBits_31, ↓zg_30_0, ↓zg_5_1, ↓mc_24, ↓mc_30, bts_t (p := fun w => decide (0 < over R s w)) (show j < 10 by omega) (decide_eq_true h)]
    · rw [zb_f h]
      simp (implicitDefEqProofs := false) (disch := omega) only [↓rI_s, ↓rV_s, ↓rI_e, ↓rV_e, zc_eq, zc_ne, zc_lt, zc_ge, zc_gt, zc_le, zlt_t, zlt_f, zle_t, zle_f, zeq_t, zeq_f, lz, zadd, zsub, zmul, zneg, zb_e0, zb_e1, boo0, boo1, ua_s, ua_n, ua_ua, up_s, u2_s, u2_f, u2_c, u2_u2, Int.natCast_add, Int.zero_add, Int.add_zero, ↓reduceIte, ne_eq, not_true_eq_false, not_false_eq_true, Int.natCast_one, ↓k_X1_frozenBits_0, ↓k_X1_frozenBits_31, ↓zg_30_0, ↓zg_5_1, ↓mc_24, ↓mc_30, bts_f (p := fun w => decide (0 < over R s w)) (j := j) (by simpa using h)]
theorem c30_inCupBits (hd : 1 ≤ d) (hR : cR R I A) (hB : bR R s (A 31) (A 32) (A 33) (A 34) (A 35) (I 30 7) (I 30 8)) (hs : sP R s) : q_rI (q_call q_MT d 28 [.ref 30] (zM I A W)) kx k = k (zI (bts (rW R) fun w => decide (s w = -3))) (zM I A W) := by
  obtain ⟨d, rfl⟩ : ∃ e, d = e + 1 := ⟨d - 1, by omega⟩
  have hw := hR.1.2.1
  have hf := hR.1.2.2.2.2.1
  have hc4 := hR.1.2.2.1
  have hn := hR.2.2.1
  refine cI ?_
  rw [cl_X1_inCupBits]
  simp (implicitDefEqProofs := false) (disch := omega) only [↓rI_s, ↓rV_s, ↓rI_e, ↓rV_e, zc_eq, zc_ne, zc_lt, zc_ge, zc_gt, zc_le, zlt_t, zlt_f, zle_t, zle_f, zeq_t, zeq_f, lz, zadd, zsub, zmul, zneg, zb_e0, zb_e1, boo0, boo1, ua_s, ua_n, ua_ua, up_s, u2_s, u2_f, u2_c, u2_u2, Int.natCast_add, Int.zero_add, Int.add_zero, ↓reduceIte, ne_eq, not_true_eq_false, not_false_eq_true, Int.natCast_one, ↓k_X1_inCupBits_0, ↓k_X1_inCupBits_34, ↓zg_30_0, ↓zg_5_1, ↓zg_30_2, zl_31, zs_31, ↓zn_31]
  refine lp_x (fun j (a : Int) => q_run qm_X1_inCupBits (q_call q_MT d) 4 [.ref 30, .int (zI a), .int (zI j)] [] (zM I A W)) (fun j a => a = bts j fun w => decide (s w = -3)) (fun r => r = _) (rW R) ?_ ?_ 0 0 (by omega) rfl
  · rintro a rfl
    rw [k_X1_inCupBits_4]
    simp (implicitDefEqProofs := false) (disch := omega) only [↓rI_s, ↓rV_s, ↓rI_e, ↓rV_e, zc_eq, zc_ne, zc_lt, zc_ge, zc_gt, zc_le, zlt_t, zlt_f, zle_t, zle_f, zeq_t, zeq_f, lz, zadd, zsub, zmul, zneg, zb_e0, zb_e1, boo0, boo1, ua_s, ua_n, ua_ua, up_s, u2_s, u2_f, u2_c, u2_u2, Int.natCast_add, Int.zero_add, Int.add_zero, ↓reduceIte, ne_eq, not_true_eq_false, not_false_eq_true, Int.natCast_one, ↓k_X1_inCupBits_0, ↓k_X1_inCupBits_34, ↓zg_30_0, ↓zg_5_1, ↓zg_30_2, zl_31, zs_31, ↓zn_31, hn, Int.le_refl]
  · rintro j a hj rfl
    refine .inr ⟨_, rfl, ?_⟩
    have bj := hB.1 j (by omega) (by omega)
    have ej := enc_f hs (w := j) (by omega) (by omega)
    have pj := hs j (by omega) (by omega)
    rw [k_X1_inCupBits_4]
    by_cases h : s j = -3
    · simp (implicitDefEqProofs := false) (disch := omega) only [↓rI_s, ↓rV_s, ↓rI_e, ↓rV_e, zc_eq, zc_ne, zc_lt, zc_ge, zc_gt, zc_le, zlt_t, zlt_f, zle_t, zle_f, zeq_t, zeq_f, lz, zadd, zsub, zmul, zneg, zb_e0, zb_e1, boo0, boo1, ua_s, ua_n, ua_ua, up_s, u2_s, u2_f, u2_c, u2_u2, Int.natCast_add, Int.zero_add, Int.add_zero, ↓reduceIte, ne_eq, not_true_eq_false, not_false_eq_true, Int.natCast_one, ↓k_X1_inCupBits_0, ↓k_X1_inCupBits_34, ↓zg_30_0, ↓zg_5_1, ↓zg_30_2, zl_31, zs_31, ↓zn_31, hn, bts_t (p := fun w => decide (s w = -3)) (show j < 10 by omega) (decide_eq_true h)]
    · simp (implicitDefEqProofs := false) (disch := omega) only [↓rI_s, ↓rV_s, ↓rI_e, ↓rV_e, zc_eq, zc_ne, zc_lt, zc_ge, zc_gt, zc_le, zlt_t, zlt_f, zle_t, zle_f, zeq_t, zeq_f, lz, zadd, zsub, zmul, zneg, zb_e0, zb_e1, boo0, boo1, ua_s, ua_n, ua_ua, up_s, u2_s, u2_f, u2_c, u2_u2, Int.natCast_add, Int.zero_add, Int.add_zero, ↓reduceIte, ne_eq, not_true_eq_false, not_false_eq_true, Int.natCast_one, ↓k_X1_inCupBits_0, ↓k_X1_inCupBits_34, ↓zg_30_0, ↓zg_5_1, ↓zg_30_2, zl_31, zs_31, ↓zn_31, hn, bts_f (p := fun w => decide (s w = -3)) (j := j) (by simpa using h)]
theorem c30_floorBits (hd : 1 ≤ d) (hR : cR R I A) (hB : bR R s (A 31) (A 32) (A 33) (A 34) (A 35) (I 30 7) (I 30 8)) (hs : sP R s) : q_rI (q_call q_MT d 29 [.ref 30] (zM I A W)) kx k = k (zI (bts (rW R) fun w => decide (s w = -2))) (zM I A W) := by
  obtain ⟨d, rfl⟩ : ∃ e, d = e + 1 := ⟨d - 1, by omega⟩
  have hw := hR.1.2.1
  have hf := hR.1.2.2.2.2.1
  have hc4 := hR.1.2.2.1
  have hn := hR.2.2.1
  refine cI ?_
  rw [cl_X1_floorBits]
  simp (implicitDefEqProofs := false) (disch := omega) only [↓rI_s, ↓rV_s, ↓rI_e, ↓rV_e, zc_eq, zc_ne, zc_lt, zc_ge, zc_gt, zc_le, zlt_t, zlt_f, zle_t, zle_f, zeq_t, zeq_f, lz, zadd, zsub, zmul, zneg, zb_e0, zb_e1, boo0, boo1, ua_s, ua_n, ua_ua, up_s, u2_s, u2_f, u2_c, u2_u2, Int.natCast_add, Int.zero_add, Int.add_zero, ↓reduceIte, ne_eq, not_true_eq_false, not_false_eq_true, Int.natCast_one, ↓k_X1_floorBits_0, ↓k_X1_floorBits_34, ↓zg_30_0, ↓zg_5_1, ↓zg_30_2, zl_31, zs_31, ↓zn_31]
  refine lp_x (fun j (a : Int) => q_run qm_X1_floorBits (q_call q_MT d) 4 [.ref 30, .int (zI a), .int (zI j)] [] (zM I A W)) (fun j a => a = bts j fun w => decide (s w = -2)) (fun r => r = _) (rW R) ?_ ?_ 0 0 (by omega) rfl
  · rintro a rfl
    rw [k_X1_floorBits_4]
    simp (implicitDefEqProofs := false) (disch := omega) only [↓rI_s, ↓rV_s, ↓rI_e, ↓rV_e, zc_eq, zc_ne, zc_lt, zc_ge, zc_gt, zc_le, zlt_t, zlt_f, zle_t, zle_f, zeq_t, zeq_f, lz, zadd, zsub, zmul, zneg, zb_e0, zb_e1, boo0, boo1, ua_s, ua_n, ua_ua, up_s, u2_s, u2_f, u2_c, u2_u2, Int.natCast_add, Int.zero_add, Int.add_zero, ↓reduceIte, ne_eq, not_true_eq_false, not_false_eq_true, Int.natCast_one, ↓k_X1_floorBits_0, ↓k_X1_floorBits_34, ↓zg_30_0, ↓zg_5_1, ↓zg_30_2, zl_31, zs_31, ↓zn_31, hn, Int.le_refl]
  · rintro j a hj rfl
    refine .inr ⟨_, rfl, ?_⟩
    have bj := hB.1 j (by omega) (by omega)
    have ej := enc_f hs (w := j) (by omega) (by omega)
    have pj := hs j (by omega) (by omega)
    rw [k_X1_floorBits_4]
    by_cases h : s j = -2
    · simp (implicitDefEqProofs := false) (disch := omega) only [↓rI_s, ↓rV_s, ↓rI_e, ↓rV_e, zc_eq, zc_ne, zc_lt, zc_ge, zc_gt, zc_le, zlt_t, zlt_f, zle_t, zle_f, zeq_t, zeq_f, lz, zadd, zsub, zmul, zneg, zb_e0, zb_e1, boo0, boo1, ua_s, ua_n, ua_ua, up_s, u2_s, u2_f, u2_c, u2_u2, Int.natCast_add, Int.zero_add, Int.add_zero, ↓reduceIte, ne_eq, not_true_eq_false, not_false_eq_true, Int.natCast_one, ↓k_X1_floorBits_0, ↓k_X1_floorBits_34, ↓zg_30_0, ↓zg_5_1, ↓zg_30_2, zl_31, zs_31, ↓zn_31, hn, bts_t (p := fun w => decide (s w = -2)) (show j < 10 by omega) (decide_eq_true h)]
    · simp (implicitDefEqProofs := false) (disch := omega) only [↓rI_s, ↓rV_s, ↓rI_e, ↓rV_e, zc_eq, zc_ne, zc_lt, zc_ge, zc_gt, zc_le, zlt_t, zlt_f, zle_t, zle_f, zeq_t, zeq_f, lz, zadd, zsub, zmul, zneg, zb_e0, zb_e1, boo0, boo1, ua_s, ua_n, ua_ua, up_s, u2_s, u2_f, u2_c, u2_u2, Int.natCast_add, Int.zero_add, Int.add_zero, ↓reduceIte, ne_eq, not_true_eq_false, not_false_eq_true, Int.natCast_one, ↓k_X1_floorBits_0, ↓k_X1_floorBits_34, ↓zg_30_0, ↓zg_5_1, ↓zg_30_2, zl_31, zs_31, ↓zn_31, hn, bts_f (p := fun w => decide (s w = -2)) (j := j) (by simpa using h)]
theorem c30_howManyIn {c : Int} (hd : 1 ≤ d) (hR : cR R I A) (hB : bR R s (A 31) (A 32) (A 33) (A 34) (A 35) (I 30 7) (I 30 8)) (hs : sP R s) (h0 : 0 ≤ c ∧ c ≤ 100) : q_rI (q_call q_MT d 30 [.ref 30, .int (zI c)] (zM I A W)) kx k = k (zI (cnt (rW R) fun w => decide (s w = -3 ∧ s (30 + w) = c))) (zM I A W) := by
  obtain ⟨d, rfl⟩ : ∃ e, d = e + 1 := ⟨d - 1, by omega⟩
  have hw := hR.1.2.1
  have hf := hR.1.2.2.2.2.1
  have hc4 := hR.1.2.2.1
  have hn := hR.2.2.1
  refine cI ?_
  rw [cl_X1_howManyIn]
  simp (implicitDefEqProofs := false) (disch := omega) only [↓rI_s, ↓rV_s, ↓rI_e, ↓rV_e, zc_eq, zc_ne, zc_lt, zc_ge, zc_gt, zc_le, zlt_t, zlt_f, zle_t, zle_f, zeq_t, zeq_f, lz, zadd, zsub, zmul, zneg, zb_e0, zb_e1, boo0, boo1, ua_s, ua_n, ua_ua, up_s, u2_s, u2_f, u2_c, u2_u2, Int.natCast_add, Int.zero_add, Int.add_zero, ↓reduceIte, ne_eq, not_true_eq_false, not_false_eq_true, Int.natCast_one, ↓k_X1_howManyIn_0, ↓k_X1_howManyIn_34, ↓zg_30_0, ↓zg_5_1, ↓zg_30_2, zl_31, zs_31, ↓zn_31]
  refine lp_x (fun j (a : Int) => q_run qm_X1_howManyIn (q_call q_MT d) 4 [.ref 30, .int (zI c), .int (zI a), .int (zI j)] [] (zM I A W)) (fun j a => a = cnt j fun w => decide (s w = -3 ∧ s (30 + w) = c)) (fun r => r = _) (rW R) ?_ ?_ 0 0 (by omega) rfl
  · rintro a rfl
    rw [k_X1_howManyIn_4]
    simp (implicitDefEqProofs := false) (disch := omega) only [↓rI_s, ↓rV_s, ↓rI_e, ↓rV_e, zc_eq, zc_ne, zc_lt, zc_ge, zc_gt, zc_le, zlt_t, zlt_f, zle_t, zle_f, zeq_t, zeq_f, lz, zadd, zsub, zmul, zneg, zb_e0, zb_e1, boo0, boo1, ua_s, ua_n, ua_ua, up_s, u2_s, u2_f, u2_c, u2_u2, Int.natCast_add, Int.zero_add, Int.add_zero, ↓reduceIte, ne_eq, not_true_eq_false, not_false_eq_true, Int.natCast_one, ↓k_X1_howManyIn_0, ↓k_X1_howManyIn_34, ↓zg_30_0, ↓zg_5_1, ↓zg_30_2, zl_31, zs_31, ↓zn_31, hn, Int.le_refl]
  · rintro j a hj rfl
    refine .inr ⟨_, rfl, ?_⟩
    have bj := hB.1 j (by omega) (by omega)
    have ej := enc_f hs (w := j) (by omega) (by omega)
    have pj := hs j (by omega) (by omega)
    rw [k_X1_howManyIn_4]
    by_cases h : s j = -3 ∧ s (30 + j) = c
    · simp (implicitDefEqProofs := false) (disch := omega) only [↓rI_s, ↓rV_s, ↓rI_e, ↓rV_e, zc_eq, zc_ne, zc_lt, zc_ge, zc_gt, zc_le, zlt_t, zlt_f, zle_t, zle_f, zeq_t, zeq_f, lz, zadd, zsub, zmul, zneg, zb_e0, zb_e1, boo0, boo1, ua_s, ua_n, ua_ua, up_s, u2_s, u2_f, u2_c, u2_u2, Int.natCast_add, Int.zero_add, Int.add_zero, ↓reduceIte, ne_eq, not_true_eq_false, not_false_eq_true, Int.natCast_one, ↓k_X1_howManyIn_0, ↓k_X1_howManyIn_34, ↓zg_30_0, ↓zg_5_1, ↓zg_30_2, zl_31, zs_31, ↓zn_31, hn]
      rw [cnt_t (decide_eq_true h)]
    · simp (implicitDefEqProofs := false) (disch := omega) only [↓rI_s, ↓rV_s, ↓rI_e, ↓rV_e, zc_eq, zc_ne, zc_lt, zc_ge, zc_gt, zc_le, zlt_t, zlt_f, zle_t, zle_f, zeq_t, zeq_f, lz, zadd, zsub, zmul, zneg, zb_e0, zb_e1, boo0, boo1, ua_s, ua_n, ua_ua, up_s, u2_s, u2_f, u2_c, u2_u2, Int.natCast_add, Int.zero_add, Int.add_zero, ↓reduceIte, ne_eq, not_true_eq_false, not_false_eq_true, Int.natCast_one, ↓k_X1_howManyIn_0, ↓k_X1_howManyIn_34, ↓zg_30_0, ↓zg_5_1, ↓zg_30_2, zl_31, zs_31, ↓zn_31, hn]
      rw [cnt_f (by simpa using h)]
theorem c30_givenWithin {b : Int} (hd : 1 ≤ d) (hR : cR R I A) (hB : bR R s (A 31) (A 32) (A 33) (A 34) (A 35) (I 30 7) (I 30 8)) (hs : sP R s) (hV : sV R s) (h0 : 0 ≤ b ∧ b ≤ 100000) : q_rI (q_call q_MT d 32 [.ref 30, .int (zI b)] (zM I A W)) kx k = k (zI (gvn (fun h => s (40 + h)) b (rH R))) (zM I A W) := by
  obtain ⟨d, rfl⟩ : ∃ e, d = e + 1 := ⟨d - 1, by omega⟩
  have h5 := hR.1.1
  have hn := hR.2.1
  refine cI ?_
  rw [cl_X1_givenWithin]
  simp (implicitDefEqProofs := false) (disch := omega) only [↓rI_s, ↓rV_s, ↓rI_e, ↓rV_e, zc_eq, zc_ne, zc_lt, zc_ge, zc_gt, zc_le, zlt_t, zlt_f, zle_t, zle_f, zeq_t, zeq_f, lz, zadd, zsub, zmul, zneg, zb_e0, zb_e1, boo0, boo1, ua_s, ua_n, ua_ua, up_s, u2_s, u2_f, u2_c, u2_u2, Int.natCast_add, Int.zero_add, Int.add_zero, ↓reduceIte, ne_eq, not_true_eq_false, not_false_eq_true, Int.natCast_one, ↓k_X1_givenWithin_0, ↓zg_30_0, ↓zg_5_0, ↓zg_30_5, zl_34, zs_34, ↓zn_34]
  refine lp_x (fun j (a : Int) => q_run qm_X1_givenWithin (q_call q_MT d) 4 [.ref 30, .int (zI b), .int (zI a), .int (zI j)] [] (zM I A W)) (fun j a => a = gvn (fun h => s (40 + h)) b j) (fun r => r = _) (rH R) ?_ ?_ 0 0 (by omega) rfl
  · rintro a rfl
    rw [k_X1_givenWithin_4]
    simp (implicitDefEqProofs := false) (disch := omega) only [↓rI_s, ↓rV_s, ↓rI_e, ↓rV_e, zc_eq, zc_ne, zc_lt, zc_ge, zc_gt, zc_le, zlt_t, zlt_f, zle_t, zle_f, zeq_t, zeq_f, lz, zadd, zsub, zmul, zneg, zb_e0, zb_e1, boo0, boo1, ua_s, ua_n, ua_ua, up_s, u2_s, u2_f, u2_c, u2_u2, Int.natCast_add, Int.zero_add, Int.add_zero, ↓reduceIte, ne_eq, not_true_eq_false, not_false_eq_true, Int.natCast_one, ↓k_X1_givenWithin_0, ↓zg_30_0, ↓zg_5_0, ↓zg_30_5, zl_34, zs_34, ↓zn_34, hn, Int.le_refl]
  · rintro j a hj rfl
    refine .inr ⟨_, rfl, ?_⟩
    have bj := hB.2.2.2.1 j (by omega) (by omega)
    have pj := hV.2.2.2.2 j (by omega) (by omega)
    rw [k_X1_givenWithin_4]
    simp (implicitDefEqProofs := false) (disch := omega) only [↓rI_s, ↓rV_s, ↓rI_e, ↓rV_e, zc_eq, zc_ne, zc_lt, zc_ge, zc_gt, zc_le, zlt_t, zlt_f, zle_t, zle_f, zeq_t, zeq_f, lz, zadd, zsub, zmul, zneg, zb_e0, zb_e1, boo0, boo1, ua_s, ua_n, ua_ua, up_s, u2_s, u2_f, u2_c, u2_u2, Int.natCast_add, Int.zero_add, Int.add_zero, ↓reduceIte, ne_eq, not_true_eq_false, not_false_eq_true, Int.natCast_one, ↓k_X1_givenWithin_0, ↓zg_30_0, ↓zg_5_0, ↓zg_30_5, zl_34, zs_34, ↓zn_34, hn, bj, zif]
    rfl
theorem m_frozen (hd : 3 ≤ d) (hR : mR R I A) (hs : sP R (A 77)) : q_rI (q_call q_MT d 226 [.ref 59] (zM I A W)) kx k = k (zI (bts (rW R) fun w => decide (0 < over R (A 77) w))) (zM I A W) := by
  obtain ⟨d, rfl⟩ : ∃ e, d = e + 1 := ⟨d - 1, by omega⟩
  have hw := hR.1.2.1
  have hn := hR.2.2.1
  refine cI ?_
  rw [cl_X11_frozen]
  simp (implicitDefEqProofs := false) (disch := omega) only [↓rI_s, ↓rV_s, ↓rI_e, ↓rV_e, zc_eq, zc_ne, zc_lt, zc_ge, zc_gt, zc_le, zlt_t, zlt_f, zle_t, zle_f, zeq_t, zeq_f, lz, zadd, zsub, zmul, zneg, zb_e0, zb_e1, boo0, boo1, ua_s, ua_n, ua_ua, up_s, u2_s, u2_f, u2_c, u2_u2, Int.natCast_add, Int.zero_add, Int.add_zero, ↓reduceIte, ne_eq, not_true_eq_false, not_false_eq_true, Int.natCast_one, ↓k_X11_frozen_0, ↓k_X11_frozen_28, ↓zg_59_22, ↓mc_59]
  refine lp_x (fun j (a : Int) => q_run qm_X11_frozen (q_call q_MT d) 4 [.ref 59, .int (zI a), .int (zI j)] [] (zM I A W)) (fun j a => a = bts j fun w => decide (0 < over R (A 77) w)) (fun r => r = _) (rW R) ?_ ?_ 0 0 (by omega) rfl
  · rintro a rfl
    rw [k_X11_frozen_4]
    simp (implicitDefEqProofs := false) (disch := omega) only [↓rI_s, ↓rV_s, ↓rI_e, ↓rV_e, zc_eq, zc_ne, zc_lt, zc_ge, zc_gt, zc_le, zlt_t, zlt_f, zle_t, zle_f, zeq_t, zeq_f, lz, zadd, zsub, zmul, zneg, zb_e0, zb_e1, boo0, boo1, ua_s, ua_n, ua_ua, up_s, u2_s, u2_f, u2_c, u2_u2, Int.natCast_add, Int.zero_add, Int.add_zero, ↓reduceIte, ne_eq, not_true_eq_false, not_false_eq_true, Int.natCast_one, ↓k_X11_frozen_0, ↓k_X11_frozen_28, ↓zg_59_22, ↓mc_59, hn, Int.le_refl]
  · rintro j a hj rfl
    refine .inr ⟨_, rfl, ?_⟩
    have ob := over_b hR.1 hs (w := j) (by omega) (by omega)
    rw [k_X11_frozen_4]
    simp (implicitDefEqProofs := false) (disch := omega) only [↓rI_s, ↓rV_s, ↓rI_e, ↓rV_e, zc_eq, zc_ne, zc_lt, zc_ge, zc_gt, zc_le, zlt_t, zlt_f, zle_t, zle_f, zeq_t, zeq_f, lz, zadd, zsub, zmul, zneg, zb_e0, zb_e1, boo0, boo1, ua_s, ua_n, ua_ua, up_s, u2_s, u2_f, u2_c, u2_u2, Int.natCast_add, Int.zero_add, Int.add_zero, ↓reduceIte, ne_eq, not_true_eq_false, not_false_eq_true, Int.natCast_one, ↓k_X11_frozen_0, ↓k_X11_frozen_28, ↓zg_59_22, ↓mc_59, hn]
    rw [m_over (by omega) hR (hs.b hR.1) (by omega) (by omega)]
    by_cases h : 0 < over R (A 77) j
    · simp (implicitDefEqProofs := false) (disch := omega) only [↓rI_s, ↓rV_s, ↓rI_e, ↓rV_e, zc_eq, zc_ne, zc_lt, zc_ge, zc_gt, zc_le, zlt_t, zlt_f, zle_t, zle_f, zeq_t, zeq_f, lz, zadd, zsub, zmul, zneg, zb_e0, zb_e1, boo0, boo1, ua_s, ua_n, ua_ua, up_s, u2_s, u2_f, u2_c, u2_u2, Int.natCast_add, Int.zero_add, Int.add_zero, ↓reduceIte, ne_eq, not_true_eq_false, not_false_eq_true, Int.natCast_one, ↓k_X11_frozen_0, ↓k_X11_frozen_28, ↓zg_59_22, ↓mc_59, bts_t (p := fun w => decide (0 < over R (A 77) w)) (show j < 10 by omega) (decide_eq_true h)]
    · simp (implicitDefEqProofs := false) (disch := omega) only [↓rI_s, ↓rV_s, ↓rI_e, ↓rV_e, zc_eq, zc_ne, zc_lt, zc_ge, zc_gt, zc_le, zlt_t, zlt_f, zle_t, zle_f, zeq_t, zeq_f, lz, zadd, zsub, zmul, zneg, zb_e0, zb_e1, boo0, boo1, ua_s, ua_n, ua_ua, up_s, u2_s, u2_f, u2_c, u2_u2, Int.natCast_add, Int.zero_add, Int.add_zero, ↓reduceIte, ne_eq, not_true_eq_false, not_false_eq_true, Int.natCast_one, ↓k_X11_frozen_0, ↓k_X11_frozen_28, ↓zg_59_22, ↓mc_59, bts_f (p := fun w => decide (0 < over R (A 77) w)) (j := j) (by simpa using h)]
theorem m_those {x : Int} (hd : 1 ≤ d) (hR : mR R I A) (hs : sB R (A 77)) (hx : -100 ≤ x ∧ x ≤ 100) : q_rI (q_call q_MT d 227 [.ref 59, .int (zI x)] (zM I A W)) kx k = k (zI (bts (rW R) fun w => decide (A 77 w = x))) (zM I A W) := by
  obtain ⟨d, rfl⟩ : ∃ e, d = e + 1 := ⟨d - 1, by omega⟩
  have hw := hR.1.2.1
  have hn := hR.2.2.1
  refine cI ?_
  rw [cl_X11_those]
  simp (implicitDefEqProofs := false) (disch := omega) only [↓rI_s, ↓rV_s, ↓rI_e, ↓rV_e, zc_eq, zc_ne, zc_lt, zc_ge, zc_gt, zc_le, zlt_t, zlt_f, zle_t, zle_f, zeq_t, zeq_f, lz, zadd, zsub, zmul, zneg, zb_e0, zb_e1, boo0, boo1, ua_s, ua_n, ua_ua, up_s, u2_s, u2_f, u2_c, u2_u2, Int.natCast_add, Int.zero_add, Int.add_zero, ↓reduceIte, ne_eq, not_true_eq_false, not_false_eq_true, Int.natCast_one, ↓k_X11_those_0, ↓k_X11_those_32, ↓zg_59_22, ↓zg_59_43, zl_77, zs_77, ↓zn_77]
  refine lp_x (fun j (a : Int) => q_run qm_X11_those (q_call q_MT d) 4 [.ref 59, .int (zI x), .int (zI a), .int (zI j)] [] (zM I A W)) (fun j a => a = bts j fun w => decide (A 77 w = x)) (fun r => r = _) (rW R) ?_ ?_ 0 0 (by omega) rfl
  · rintro a rfl
    rw [k_X11_those_4]
    simp (implicitDefEqProofs := false) (disch := omega) only [↓rI_s, ↓rV_s, ↓rI_e, ↓rV_e, zc_eq, zc_ne, zc_lt, zc_ge, zc_gt, zc_le, zlt_t, zlt_f, zle_t, zle_f, zeq_t, zeq_f, lz, zadd, zsub, zmul, zneg, zb_e0, zb_e1, boo0, boo1, ua_s, ua_n, ua_ua, up_s, u2_s, u2_f, u2_c, u2_u2, Int.natCast_add, Int.zero_add, Int.add_zero, ↓reduceIte, ne_eq, not_true_eq_false, not_false_eq_true, Int.natCast_one, ↓k_X11_those_0, ↓k_X11_those_32, ↓zg_59_22, ↓zg_59_43, zl_77, zs_77, ↓zn_77, hn, Int.le_refl]
  · rintro j a hj rfl
    refine .inr ⟨_, rfl, ?_⟩
    have bj := hs j (by omega) (by omega)
    rw [k_X11_those_4]
    by_cases h : A 77 j = x
    · simp (implicitDefEqProofs := false) (disch := omega) only [↓rI_s, ↓rV_s, ↓rI_e, ↓rV_e, zc_eq, zc_ne, zc_lt, zc_ge, zc_gt, zc_le, zlt_t, zlt_f, zle_t, zle_f, zeq_t, zeq_f, lz, zadd, zsub, zmul, zneg, zb_e0, zb_e1, boo0, boo1, ua_s, ua_n, ua_ua, up_s, u2_s, u2_f, u2_c, u2_u2, Int.natCast_add, Int.zero_add, Int.add_zero, ↓reduceIte, ne_eq, not_true_eq_false, not_false_eq_true, Int.natCast_one, ↓k_X11_those_0, ↓k_X11_those_32, ↓zg_59_22, ↓zg_59_43, zl_77, zs_77, ↓zn_77, hn, bts_t (p := fun w => decide (A 77 w = x)) (show j < 10 by omega) (decide_eq_true h)]
    · simp (implicitDefEqProofs := false) (disch := omega) only [↓rI_s, ↓rV_s, ↓rI_e, ↓rV_e, zc_eq, zc_ne, zc_lt, zc_ge, zc_gt, zc_le, zlt_t, zlt_f, zle_t, zle_f, zeq_t, zeq_f, lz, zadd, zsub, zmul, zneg, zb_e0, zb_e1, boo0, boo1, ua_s, ua_n, ua_ua, up_s, u2_s, u2_f, u2_c, u2_u2, Int.natCast_add, Int.zero_add, Int.add_zero, ↓reduceIte, ne_eq, not_true_eq_false, not_false_eq_true, Int.natCast_one, ↓k_X11_those_0, ↓k_X11_those_32, ↓zg_59_22, ↓zg_59_43, zl_77, zs_77, ↓zn_77, hn, bts_f (p := fun w => decide (A 77 w = x)) (j := j) (by simpa using h)]
theorem m_manyOf {x : Int} (hd : 1 ≤ d) (hR : mR R I A) (hs : sB R (A 77)) (hx : -100 ≤ x ∧ x ≤ 100) : q_rI (q_call q_MT d 271 [.ref 59, .int (zI x)] (zM I A W)) kx k = k (zI (cnt (rW R) fun w => decide (A 77 w = x))) (zM I A W) := by
  obtain ⟨d, rfl⟩ : ∃ e, d = e + 1 := ⟨d - 1, by omega⟩
  have hw := hR.1.2.1
  have hn := hR.2.2.1
  refine cI ?_
  rw [cl_X11_manyOf]
  simp (implicitDefEqProofs := false) (disch := omega) only [↓rI_s, ↓rV_s, ↓rI_e, ↓rV_e, zc_eq, zc_ne, zc_lt, zc_ge, zc_gt, zc_le, zlt_t, zlt_f, zle_t, zle_f, zeq_t, zeq_f, lz, zadd, zsub, zmul, zneg, zb_e0, zb_e1, boo0, boo1, ua_s, ua_n, ua_ua, up_s, u2_s, u2_f, u2_c, u2_u2, Int.natCast_add, Int.zero_add, Int.add_zero, ↓reduceIte, ne_eq, not_true_eq_false, not_false_eq_true, Int.natCast_one, ↓k_X11_manyOf_0, ↓k_X11_manyOf_30, ↓zg_59_22, ↓zg_59_43, zl_77, zs_77, ↓zn_77]
  refine lp_x (fun j (a : Int) => q_run qm_X11_manyOf (q_call q_MT d) 4 [.ref 59, .int (zI x), .int (zI a), .int (zI j)] [] (zM I A W)) (fun j a => a = cnt j fun w => decide (A 77 w = x)) (fun r => r = _) (rW R) ?_ ?_ 0 0 (by omega) rfl
  · rintro a rfl
    rw [k_X11_manyOf_4]
    simp (implicitDefEqProofs := false) (disch := omega) only [↓rI_s, ↓rV_s, ↓rI_e, ↓rV_e, zc_eq, zc_ne, zc_lt, zc_ge, zc_gt, zc_le, zlt_t, zlt_f, zle_t, zle_f, zeq_t, zeq_f, lz, zadd, zsub, zmul, zneg, zb_e0, zb_e1, boo0, boo1, ua_s, ua_n, ua_ua, up_s, u2_s, u2_f, u2_c, u2_u2, Int.natCast_add, Int.zero_add, Int.add_zero, ↓reduceIte, ne_eq, not_true_eq_false, not_false_eq_true, Int.natCast_one, ↓k_X11_manyOf_0, ↓k_X11_manyOf_30, ↓zg_59_22, ↓zg_59_43, zl_77, zs_77, ↓zn_77, hn, Int.le_refl]
  · rintro j a hj rfl
    refine .inr ⟨_, rfl, ?_⟩
    have bj := hs j (by omega) (by omega)
    rw [k_X11_manyOf_4]
    by_cases h : A 77 j = x
    · simp (implicitDefEqProofs := false) (disch := omega) only [↓rI_s, ↓rV_s, ↓rI_e, ↓rV_e, zc_eq, zc_ne, zc_lt, zc_ge, zc_gt, zc_le, zlt_t, zlt_f, zle_t, zle_f, zeq_t, zeq_f, lz, zadd, zsub, zmul, zneg, zb_e0, zb_e1, boo0, boo1, ua_s, ua_n, ua_ua, up_s, u2_s, u2_f, u2_c, u2_u2, Int.natCast_add, Int.zero_add, Int.add_zero, ↓reduceIte, ne_eq, not_true_eq_false, not_false_eq_true, Int.natCast_one, ↓k_X11_manyOf_0, ↓k_X11_manyOf_30, ↓zg_59_22, ↓zg_59_43, zl_77, zs_77, ↓zn_77, hn]
      rw [cnt_t (decide_eq_true h)]
    · simp (implicitDefEqProofs := false) (disch := omega) only [↓rI_s, ↓rV_s, ↓rI_e, ↓rV_e, zc_eq, zc_ne, zc_lt, zc_ge, zc_gt, zc_le, zlt_t, zlt_f, zle_t, zle_f, zeq_t, zeq_f, lz, zadd, zsub, zmul, zneg, zb_e0, zb_e1, boo0, boo1, ua_s, ua_n, ua_ua, up_s, u2_s, u2_f, u2_c, u2_u2, Int.natCast_add, Int.zero_add, Int.add_zero, ↓reduceIte, ne_eq, not_true_eq_false, not_false_eq_true, Int.natCast_one, ↓k_X11_manyOf_0, ↓k_X11_manyOf_30, ↓zg_59_22, ↓zg_59_43, zl_77, zs_77, ↓zn_77, hn]
      rw [cnt_f (by simpa using h)]
theorem m_givenBy {b : Int} (hd : 1 ≤ d) (hR : mR R I A) (hp : ∀ h : Int, 0 ≤ h → h < rH R → 0 ≤ A 76 (40 + h) ∧ A 76 (40 + h) ≤ 9999) (h0 : 0 ≤ b ∧ b ≤ 100000) : q_rI (q_call q_MT d 264 [.ref 59, .int (zI b)] (zM I A W)) kx k = k (zI (gvn (fun h => A 76 (40 + h)) b (rH R))) (zM I A W) := by
  obtain ⟨d, rfl⟩ : ∃ e, d = e + 1 := ⟨d - 1, by omega⟩
  have h5 := hR.1.1
  have hn := hR.2.1
  refine cI ?_
  rw [cl_X11_givenBy]
  simp (implicitDefEqProofs := false) (disch := omega) only [↓rI_s, ↓rV_s, ↓rI_e, ↓rV_e, zc_eq, zc_ne, zc_lt, zc_ge, zc_gt, zc_le, zlt_t, zlt_f, zle_t, zle_f, zeq_t, zeq_f, lz, zadd, zsub, zmul, zneg, zb_e0, zb_e1, boo0, boo1, ua_s, ua_n, ua_ua, up_s, u2_s, u2_f, u2_c, u2_u2, Int.natCast_add, Int.zero_add, Int.add_zero, ↓reduceIte, ne_eq, not_true_eq_false, not_false_eq_true, Int.natCast_one, ↓k_X11_givenBy_0, ↓k_X11_givenBy_39, ↓zg_59_21, ↓zg_59_42, zl_76, zs_76, ↓zn_76]
  refine lp_x (fun j (a : Int) => q_run qm_X11_givenBy (q_call q_MT d) 4 [.ref 59, .int (zI b), .int (zI a), .int (zI j)] [] (zM I A W)) (fun j a => a = gvn (fun h => A 76 (40 + h)) b j) (fun r => r = _) (rH R) ?_ ?_ 0 0 (by omega) rfl
  · rintro a rfl
    rw [k_X11_givenBy_4]
    simp (implicitDefEqProofs := false) (disch := omega) only [↓rI_s, ↓rV_s, ↓rI_e, ↓rV_e, zc_eq, zc_ne, zc_lt, zc_ge, zc_gt, zc_le, zlt_t, zlt_f, zle_t, zle_f, zeq_t, zeq_f, lz, zadd, zsub, zmul, zneg, zb_e0, zb_e1, boo0, boo1, ua_s, ua_n, ua_ua, up_s, u2_s, u2_f, u2_c, u2_u2, Int.natCast_add, Int.zero_add, Int.add_zero, ↓reduceIte, ne_eq, not_true_eq_false, not_false_eq_true, Int.natCast_one, ↓k_X11_givenBy_0, ↓k_X11_givenBy_39, ↓zg_59_21, ↓zg_59_42, zl_76, zs_76, ↓zn_76, hn, Int.le_refl]
  · rintro j a hj rfl
    refine .inr ⟨_, rfl, ?_⟩
    have pj := hp j (by omega) (by omega)
    have e : gvn (fun h => A 76 (40 + h)) b (j + 1) = gvn (fun h => A 76 (40 + h)) b j + (if b < A 76 (40 + j) then b else A 76 (40 + j)) := rfl
    rw [e, k_X11_givenBy_4]
    by_cases q : A 76 (40 + j) < b
    · rw [if_neg (by omega)]
      simp (implicitDefEqProofs := false) (disch := omega) only [↓rI_s, ↓rV_s, ↓rI_e, ↓rV_e, zc_eq, zc_ne, zc_lt, zc_ge, zc_gt, zc_le, zlt_t, zlt_f, zle_t, zle_f, zeq_t, zeq_f, lz, zadd, zsub, zmul, zneg, zb_e0, zb_e1, boo0, boo1, ua_s, ua_n, ua_ua, up_s, u2_s, u2_f, u2_c, u2_u2, Int.natCast_add, Int.zero_add, Int.add_zero, ↓reduceIte, ne_eq, not_true_eq_false, not_false_eq_true, Int.natCast_one, ↓k_X11_givenBy_0, ↓k_X11_givenBy_39, ↓zg_59_21, ↓zg_59_42, zl_76, zs_76, ↓zn_76, hn]
    · simp (implicitDefEqProofs := false) (disch := omega) only [↓rI_s, ↓rV_s, ↓rI_e, ↓rV_e, zc_eq, zc_ne, zc_lt, zc_ge, zc_gt, zc_le, zlt_t, zlt_f, zle_t, zle_f, zeq_t, zeq_f, lz, zadd, zsub, zmul, zneg, zb_e0, zb_e1, boo0, boo1, ua_s, ua_n, ua_ua, up_s, u2_s, u2_f, u2_c, u2_u2, Int.natCast_add, Int.zero_add, Int.add_zero, ↓reduceIte, ne_eq, not_true_eq_false, not_false_eq_true, Int.natCast_one, ↓k_X11_givenBy_0, ↓k_X11_givenBy_39, ↓zg_59_21, ↓zg_59_42, zl_76, zs_76, ↓zn_76, hn]
      split
      · rfl
      · rw [show A 76 (40 + (j : Int)) = b by omega]
end AK
