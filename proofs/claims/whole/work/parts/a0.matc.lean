--DEPS 9z.matb
def hitB (R : zR) (F : zF) (s : Int → Int) (c w : Nat) : Nat → Bool
  | 0 => false
  | k + 1 => hitB R F s c w k || decide (chit R F s w ((k : Int) / 2 + 1) ((k : Int) % 2) = c)
def htM (R : zR) (F : zF) (s : Int → Int) (c w : Nat) : Bool := hitB R F s c w 18
abbrev rPn (R : zR) : Nat → Int := fun c => rP R c
abbrev tbN (m : Nat) : Nat → Bool := fun i => Nat.testBit m i
theorem wR.p {R : zR} (h : wR R) {c : Int} (h0 : 0 ≤ c) (h1 : c < rC R) : 1 ≤ rP R c ∧ rP R c ≤ 99 := h.2.2.2.2.2.2.2.2.2.2 c h0 h1
theorem htP_b {R : zR} (hR : wR R) {S : Nat → Bool} : ∀ {k : Nat}, k ≤ rC R → 0 ≤ htP (rPn R) S k ∧ htP (rPn R) S k ≤ 99 * k
  | 0, _ => by show (0 : Int) ≤ 0 ∧ (0 : Int) ≤ _; omega
  | k + 1, hk => by
    have ih := htP_b hR (S := S) (k := k) (by omega)
    have hp := hR.p (c := (k : Int)) (by omega) (by omega)
    show 0 ≤ htP (rPn R) S k + (if S k = true then rP R k else 0) ∧ htP (rPn R) S k + (if S k = true then rP R k else 0) ≤ _
    split <;> omega
section MC
variable {d : Nat} {I : Nat → Nat → Int} {A : Nat → Int → Int} {W : qWt} {R : zR} {F : zF} {s : Int → Int} {M : Nat → Nat → Bool} {u : Nat → Bool}
theorem c_paysOf {m : Nat} (hd : 1 ≤ d) (hR : cR R I A) (hm : m < 2 ^ rC R) : q_call q_MT d 15 [.ref 45, .int (zI m)] (zM I A W) = some (.inl (some (.int (zI (htP (rPn R) (tbN m) (rC R))))), zM I A W) := by
  obtain ⟨d, rfl⟩ : ∃ e, d = e + 1 := ⟨d - 1, by omega⟩
  have hc4 := hR.1.2.2.1
  have e2 := hR.2.2.2.1
  rw [cl_X0_paysOf]
  simp (implicitDefEqProofs := false) (disch := omega) only [↓rI_s, ↓rV_s, ↓rI_e, ↓rV_e, zc_eq, zc_ne, zc_lt, zc_ge, zc_gt, zc_le, zlt_t, zlt_f, zle_t, zle_f, zeq_t, zeq_f, lz, zadd, zsub, zmul, zneg, zb_e0, zb_e1, boo0, boo1, ua_s, ua_n, ua_ua, up_s, u2_s, u2_f, u2_c, u2_u2, Int.natCast_add, Int.zero_add, Int.add_zero, ↓reduceIte, ne_eq, not_true_eq_false, not_false_eq_true, Int.natCast_one, ↓k_X0_paysOf_0]
  refine lp_x (fun j (a : Int) => q_run qm_X0_paysOf (q_call q_MT d) 4 [.ref 45, .int (zI m), .int (zI a), .int (zI j)] [] (zM I A W)) (fun j a => a = htP (rPn R) (tbN m) j) (fun r => r = _) (rC R) ?_ ?_ 0 0 (by omega) rfl
  · rintro a rfl
    rw [k_X0_paysOf_4]
    simp (implicitDefEqProofs := false) (disch := omega) only [↓rI_s, ↓rV_s, ↓rI_e, ↓rV_e, zc_eq, zc_ne, zc_lt, zc_ge, zc_gt, zc_le, zlt_t, zlt_f, zle_t, zle_f, zeq_t, zeq_f, lz, zadd, zsub, zmul, zneg, zb_e0, zb_e1, boo0, boo1, ua_s, ua_n, ua_ua, up_s, u2_s, u2_f, u2_c, u2_u2, Int.natCast_add, Int.zero_add, Int.add_zero, ↓reduceIte, ne_eq, not_true_eq_false, not_false_eq_true, Int.natCast_one, ↓zg_45_0, ↓zg_5_2, e2, Int.le_refl]
  · rintro j a hj rfl
    refine .inr ⟨_, rfl, ?_⟩
    have hb := htP_b hR.1 (S := tbN m) (k := j) (by omega)
    have hp := hR.1.p (c := (j : Int)) (by omega) (by omega)
    have ep := hR.2.2.2.2.2.2.2.2.2 j (by omega) (by omega)
    have ebit := bts_bit (p := tbN m) (n := rC R) (j := j) (by omega) hj
    rw [← bts_nt hm] at ebit
    have eS : htP (rPn R) (tbN m) (j + 1) = htP (rPn R) (tbN m) j + (if tbN m j = true then rP R j else 0) := rfl
    rw [k_X0_paysOf_4]
    by_cases q : tbN m j = true
    · rw [if_pos q] at ebit eS
      rw [eS]
      simp (implicitDefEqProofs := false) (disch := omega) only [↓rI_s, ↓rV_s, ↓rI_e, ↓rV_e, zc_eq, zc_ne, zc_lt, zc_ge, zc_gt, zc_le, zlt_t, zlt_f, zle_t, zle_f, zeq_t, zeq_f, lz, zadd, zsub, zmul, zneg, zb_e0, zb_e1, boo0, boo1, ua_s, ua_n, ua_ua, up_s, u2_s, u2_f, u2_c, u2_u2, Int.natCast_add, Int.zero_add, Int.add_zero, ↓reduceIte, ne_eq, not_true_eq_false, not_false_eq_true, Int.natCast_one, ↓zg_45_0, ↓zg_5_2, e2, ↓zg_5_10, zl_11, ep, ebit, Int.one_mul]
    · rw [if_neg q] at ebit eS
      rw [eS]
      simp (implicitDefEqProofs := false) (disch := omega) only [↓rI_s, ↓rV_s, ↓rI_e, ↓rV_e, zc_eq, zc_ne, zc_lt, zc_ge, zc_gt, zc_le, zlt_t, zlt_f, zle_t, zle_f, zeq_t, zeq_f, lz, zadd, zsub, zmul, zneg, zb_e0, zb_e1, boo0, boo1, ua_s, ua_n, ua_ua, up_s, u2_s, u2_f, u2_c, u2_u2, Int.natCast_add, Int.zero_add, Int.add_zero, ↓reduceIte, ne_eq, not_true_eq_false, not_false_eq_true, Int.natCast_one, ↓zg_45_0, ↓zg_5_2, e2, ↓zg_5_10, zl_11, ep, ebit, Int.zero_mul]
theorem c_comersOf {m : Nat} (hd : 1 ≤ d) (hR : cR R I A) (hm : m < 2 ^ rC R) (hM : ∀ c : Nat, c < rC R → A 49 c = bts (rW R) (M c)) : q_call q_MT d 17 [.ref 45, .int (zI m)] (zM I A W) = some (.inl (some (.int (zI (bts (rW R) fun w => htN M (tbN m) w (rC R))))), zM I A W) := by
  obtain ⟨d, rfl⟩ : ∃ e, d = e + 1 := ⟨d - 1, by omega⟩
  have hc4 := hR.1.2.2.1
  have hw := hR.1.2.1
  have e2 := hR.2.2.2.1
  rw [cl_X0_comersOf]
  simp (implicitDefEqProofs := false) (disch := omega) only [↓rI_s, ↓rV_s, ↓rI_e, ↓rV_e, zc_eq, zc_ne, zc_lt, zc_ge, zc_gt, zc_le, zlt_t, zlt_f, zle_t, zle_f, zeq_t, zeq_f, lz, zadd, zsub, zmul, zneg, zb_e0, zb_e1, boo0, boo1, ua_s, ua_n, ua_ua, up_s, u2_s, u2_f, u2_c, u2_u2, Int.natCast_add, Int.zero_add, Int.add_zero, ↓reduceIte, ne_eq, not_true_eq_false, not_false_eq_true, Int.natCast_one, ↓k_X0_comersOf_0]
  refine lp_x (fun j (a : Int) => q_run qm_X0_comersOf (q_call q_MT d) 4 [.ref 45, .int (zI m), .int (zI a), .int (zI j)] [] (zM I A W)) (fun j a => a = bts (rW R) fun w => htN M (tbN m) w j) (fun r => r = _) (rC R) ?_ ?_ 0 0 (by omega) ?_
  · rintro a rfl
    rw [k_X0_comersOf_4]
    simp (implicitDefEqProofs := false) (disch := omega) only [↓rI_s, ↓rV_s, ↓rI_e, ↓rV_e, zc_eq, zc_ne, zc_lt, zc_ge, zc_gt, zc_le, zlt_t, zlt_f, zle_t, zle_f, zeq_t, zeq_f, lz, zadd, zsub, zmul, zneg, zb_e0, zb_e1, boo0, boo1, ua_s, ua_n, ua_ua, up_s, u2_s, u2_f, u2_c, u2_u2, Int.natCast_add, Int.zero_add, Int.add_zero, ↓reduceIte, ne_eq, not_true_eq_false, not_false_eq_true, Int.natCast_one, ↓zg_45_0, ↓zg_5_2, e2, Int.le_refl]
  · rintro j a hj rfl
    refine .inr ⟨_, rfl, ?_⟩
    have ebit := bts_bit (p := tbN m) (n := rC R) (j := j) (by omega) hj
    rw [← bts_nt hm] at ebit
    have eM := hM j hj
    rw [k_X0_comersOf_4]
    by_cases q : tbN m j = true
    · rw [if_pos q] at ebit
      have e : (bts (rW R) fun w => htN M (tbN m) w (j + 1)) = bts (rW R) fun w => htN M (tbN m) w j || M j w := bts_cg fun w _ => by
        show (htN M (tbN m) w j || (tbN m j && M j w)) = _
        rw [q, Bool.true_and]
      rw [e]
      simp (implicitDefEqProofs := false) (disch := omega) only [↓rI_s, ↓rV_s, ↓rI_e, ↓rV_e, zc_eq, zc_ne, zc_lt, zc_ge, zc_gt, zc_le, zlt_t, zlt_f, zle_t, zle_f, zeq_t, zeq_f, lz, zadd, zsub, zmul, zneg, zb_e0, zb_e1, boo0, boo1, ua_s, ua_n, ua_ua, up_s, u2_s, u2_f, u2_c, u2_u2, Int.natCast_add, Int.zero_add, Int.add_zero, ↓reduceIte, ne_eq, not_true_eq_false, not_false_eq_true, Int.natCast_one, ↓zg_45_0, ↓zg_5_2, e2, ↓zg_45_6, zl_49, eM, ebit, ↓k_X0_comersOf_33, bts_or]
    · rw [if_neg q] at ebit
      have e : (bts (rW R) fun w => htN M (tbN m) w (j + 1)) = bts (rW R) fun w => htN M (tbN m) w j := bts_cg fun w _ => by
        show (htN M (tbN m) w j || (tbN m j && M j w)) = _
        cases g : tbN m j
        · rw [Bool.false_and, Bool.or_false]
        · exact absurd g q
      rw [e]
      simp (implicitDefEqProofs := false) (disch := omega) only [↓rI_s, ↓rV_s, ↓rI_e, ↓rV_e, zc_eq, zc_ne, zc_lt, zc_ge, zc_gt, zc_le, zlt_t, zlt_f, zle_t, zle_f, zeq_t, zeq_f, lz, zadd, zsub, zmul, zneg, zb_e0, zb_e1, boo0, boo1, ua_s, ua_n, ua_ua, up_s, u2_s, u2_f, u2_c, u2_u2, Int.natCast_add, Int.zero_add, Int.add_zero, ↓reduceIte, ne_eq, not_true_eq_false, not_false_eq_true, Int.natCast_one, ↓zg_45_0, ↓zg_5_2, e2, ebit, ↓k_X0_comersOf_33]
  · exact (bts_z.mpr fun k _ h => by cases h).symm
/-- sets as numbers stand for all sets -/
theorem tbN_all {n : Nat} {S : Nat → Bool} (h : ∀ i, S i = true → i < n) : ∃ m : Nat, m < 2 ^ n ∧ tbN m = S := by
  obtain ⟨m, -, h2, tc⟩ := bts_tN n S
  refine ⟨m, h2, funext fun i => ?_⟩
  show Nat.testBit m i = S i
  rw [tc]
  cases q : S i
  · simp
  · simp [h i q]
theorem tbN_lt {m n i : Nat} (h : m < 2 ^ n) (hi : tbN m i = true) : i < n := by
  by_cases q : i < n
  · exact q
  · have : m < 2 ^ i := Nat.lt_of_lt_of_le h (Nat.pow_le_pow_right (by decide) (by omega))
    have e := Nat.testBit_lt_two_pow this
    rw [show Nat.testBit m i = true from hi] at e; cases e
theorem tbN_le {m k : Nat} (h : ∀ i, tbN m i = true → tbN k i = true) : m ≤ k := by
  have : m &&& k = m := Nat.eq_of_testBit_eq fun i => by
    rw [Nat.testBit_and]
    cases q : Nat.testBit m i
    · rfl
    · rw [show Nat.testBit k i = true from h i q]; rfl
  rw [← this]
  exact Nat.and_le_right
theorem c_canAll {m : Nat} (hd : 2 ≤ d) (hR : cR R I A) (hm : m < 2 ^ rC R) (hM : ∀ c : Nat, c < rC R → A 49 c = bts (rW R) (M c)) : ∃ v : Int, ((v = 1 ∧ htH (rC R) (rW R) M (tbN m) u) ∨ (v = 0 ∧ ¬ htH (rC R) (rW R) M (tbN m) u)) ∧ q_call q_MT d 16 [.ref 45, .int (zI m), .int (zI (bts (rW R) u))] (zM I A W) = some (.inl (some (.int (zI v))), zM I A W) := by
  obtain ⟨d, rfl⟩ : ∃ e, d = e + 1 := ⟨d - 1, by omega⟩
  have hc4 := hR.1.2.2.1
  have hw := hR.1.2.1
  have h16 : 2 ^ rC R ≤ 2 ^ 4 := Nat.pow_le_pow_right (by decide) hc4
  rw [cl_X0_canAllBeGiven]
  simp (implicitDefEqProofs := false) (disch := omega) only [↓rI_s, ↓rV_s, ↓rI_e, ↓rV_e, zc_eq, zc_ne, zc_lt, zc_ge, zc_gt, zc_le, zlt_t, zlt_f, zle_t, zle_f, zeq_t, zeq_f, lz, zadd, zsub, zmul, zneg, zb_e0, zb_e1, boo0, boo1, ua_s, ua_n, ua_ua, up_s, u2_s, u2_f, u2_c, u2_u2, Int.natCast_add, Int.zero_add, Int.add_zero, ↓reduceIte, ne_eq, not_true_eq_false, not_false_eq_true, Int.natCast_one, ↓k_X0_canAllBeGiven_0]
  refine lp_x (fun j (_ : Unit) => q_run qm_X0_canAllBeGiven (q_call q_MT d) 2 [.ref 45, .int (zI m), .int (zI (bts (rW R) u)), .int (zI (j + 1))] [] (zM I A W)) (fun j _ => ∀ k : Nat, 1 ≤ k → k < j + 1 → (∀ i, tbN k i = true → tbN m i = true) → cnt (rC R) (tbN k) ≤ htV (rC R) (rW R) M (tbN k) u) (fun r => ∃ v : Int, ((v = 1 ∧ htH (rC R) (rW R) M (tbN m) u) ∨ (v = 0 ∧ ¬ htH (rC R) (rW R) M (tbN m) u)) ∧ r = some (.inl (some (.int (zI v))), zM I A W)) m ?_ ?_ 0 () (by omega) (fun k k1 k2 => by omega)
  · rintro - h
    have hh : htH (rC R) (rW R) M (tbN m) u := fun P hP => by
      obtain ⟨k, k1, k2⟩ := tbN_all (n := rC R) (S := P) fun i hi => tbN_lt hm (hP i hi)
      subst k2
      by_cases q : k = 0
      · have : cnt (rC R) (tbN k) = 0 := cnt_z fun i _ => by subst q; simp [tbN]
        rw [this]; exact cnt_lo _ _
      · exact h k (by omega) (Nat.lt_succ_of_le (tbN_le hP)) hP
    refine ⟨1, .inl ⟨rfl, hh⟩, ?_⟩
    rw [k_X0_canAllBeGiven_2]
    simp (implicitDefEqProofs := false) (disch := omega) only [↓rI_s, ↓rV_s, ↓rI_e, ↓rV_e, zc_eq, zc_ne, zc_lt, zc_ge, zc_gt, zc_le, zlt_t, zlt_f, zle_t, zle_f, zeq_t, zeq_f, lz, zadd, zsub, zmul, zneg, zb_e0, zb_e1, boo0, boo1, ua_s, ua_n, ua_ua, up_s, u2_s, u2_f, u2_c, u2_u2, Int.natCast_add, Int.zero_add, Int.add_zero, ↓reduceIte, ne_eq, not_true_eq_false, not_false_eq_true, Int.natCast_one]
  · rintro j - hj h
    have lt : j + 1 < 2 ^ rC R := by omega
    have ean := bts_an (n := rC R) (p := tbN (j + 1)) (q := tbN m)
    rw [← bts_nt hm, ← bts_nt lt] at ean
    rw [k_X0_canAllBeGiven_2]
    by_cases q : ∀ i, tbN (j + 1) i = true → tbN m i = true
    · have ez : (bts (rC R) fun k => tbN (j + 1) k && !tbN m k) = 0 := bts_z.mpr fun k _ hk => by
        rw [Bool.and_eq_true] at hk
        rw [q k hk.1] at hk; exact absurd hk.2 (by decide)
      rw [ez, Int.natCast_add, Int.natCast_one] at ean
      have co := c_comersOf (W := W) (d := d) (m := j + 1) (by omega) hR lt hM
      have b1 := j_bitCount (d := d) (h := zM I A W) (n := rW R) (p := fun k => htN M (tbN (j + 1)) k (rC R) && !u k) (by omega) hw
      have b2 := j_bitCount (d := d) (h := zM I A W) (n := rC R) (p := tbN (j + 1)) (by omega) (by omega)
      rw [← bts_nt lt] at b2
      rw [Int.natCast_add, Int.natCast_one] at co b2
      have c1 := cnt_lo (rW R) fun k => htN M (tbN (j + 1)) k (rC R) && !u k
      have c2 := cnt_hi (rW R) fun k => htN M (tbN (j + 1)) k (rC R) && !u k
      have c3 := cnt_lo (rC R) (tbN (j + 1))
      have c4 := cnt_hi (rC R) (tbN (j + 1))
      by_cases g : cnt (rC R) (tbN (j + 1)) ≤ htV (rC R) (rW R) M (tbN (j + 1)) u
      · refine .inr ⟨(), fun k k1 k2 k3 => ?_, ?_⟩
        · by_cases e : k = j + 1
          · subst e; exact g
          · exact h k k1 (by omega) k3
        · have g' : cnt (rC R) (tbN (j + 1)) ≤ cnt (rW R) fun k => htN M (tbN (j + 1)) k (rC R) && !u k := g
          simp (implicitDefEqProofs := false) (disch := omega) only [↓rI_s, ↓rV_s, ↓rI_e, ↓rV_e, zc_eq, zc_ne, zc_lt, zc_ge, zc_gt, zc_le, zlt_t, zlt_f, zle_t, zle_f, zeq_t, zeq_f, lz, zadd, zsub, zmul, zneg, zb_e0, zb_e1, boo0, boo1, ua_s, ua_n, ua_ua, up_s, u2_s, u2_f, u2_c, u2_u2, Int.natCast_add, Int.zero_add, Int.add_zero, ↓reduceIte, ne_eq, not_true_eq_false, not_false_eq_true, Int.natCast_one, ↓mc_45, ean, ↓cI co, bts_an, ↓cI b1, ↓cI b2, ↓k_X0_canAllBeGiven_36]
      · refine .inl ?_
        have g' : ¬ (cnt (rC R) (tbN (j + 1)) ≤ cnt (rW R) fun k => htN M (tbN (j + 1)) k (rC R) && !u k) := g
        have hh : ¬ htH (rC R) (rW R) M (tbN m) u := fun r => g (r _ q)
        refine ⟨0, .inr ⟨rfl, hh⟩, ?_⟩
        simp (implicitDefEqProofs := false) (disch := omega) only [↓rI_s, ↓rV_s, ↓rI_e, ↓rV_e, zc_eq, zc_ne, zc_lt, zc_ge, zc_gt, zc_le, zlt_t, zlt_f, zle_t, zle_f, zeq_t, zeq_f, lz, zadd, zsub, zmul, zneg, zb_e0, zb_e1, boo0, boo1, ua_s, ua_n, ua_ua, up_s, u2_s, u2_f, u2_c, u2_u2, Int.natCast_add, Int.zero_add, Int.add_zero, ↓reduceIte, ne_eq, not_true_eq_false, not_false_eq_true, Int.natCast_one, ↓mc_45, ean, ↓cI co, bts_an, ↓cI b1, ↓cI b2]
    · have nz : ¬ (bts (rC R) fun k => tbN (j + 1) k && !tbN m k) = 0 := fun r => q fun i hi => by
        have := bts_z.mp r i (tbN_lt lt hi)
        rw [hi, Bool.true_and] at this
        cases e : tbN m i
        · rw [e] at this; exact absurd rfl this
        · rfl
      have nb := bts_b (show rC R ≤ 10 by omega) fun k => tbN (j + 1) k && !tbN m k
      rw [Int.natCast_add, Int.natCast_one] at ean
      refine .inr ⟨(), fun k k1 k2 k3 => ?_, ?_⟩
      · by_cases e : k = j + 1
        · subst e; exact absurd k3 q
        · exact h k k1 (by omega) k3
      · simp (implicitDefEqProofs := false) (disch := omega) only [↓rI_s, ↓rV_s, ↓rI_e, ↓rV_e, zc_eq, zc_ne, zc_lt, zc_ge, zc_gt, zc_le, zlt_t, zlt_f, zle_t, zle_f, zeq_t, zeq_f, lz, zadd, zsub, zmul, zneg, zb_e0, zb_e1, boo0, boo1, ua_s, ua_n, ua_ua, up_s, u2_s, u2_f, u2_c, u2_u2, Int.natCast_add, Int.zero_add, Int.add_zero, ↓reduceIte, ne_eq, not_true_eq_false, not_false_eq_true, Int.natCast_one, ean, ↓k_X0_canAllBeGiven_36]
end MC
