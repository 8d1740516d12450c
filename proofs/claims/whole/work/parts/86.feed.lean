--DEPS 69.out
/-! The tape is fed. -/
def sg (b : Int) : Int := if b < 128 then b else b - 256
def bt (v sh : Int) : Int := ((zI v >>> (zI sh &&& zI 31)) &&& zI 255).toInt
theorem and255_b (v : Int32) : 0 ≤ (v &&& zI 255).toInt ∧ (v &&& zI 255).toInt ≤ 255 := by
  have h1 : (v &&& zI 255).toBitVec.toNat ≤ 255 := by
    rw [Int32.toBitVec_and, BitVec.toNat_and]
    exact Nat.le_trans Nat.and_le_right (by decide)
  have h2 : (v &&& zI 255).toInt = ((v &&& zI 255).toBitVec.toNat : Int) := by
    show (v &&& zI 255).toBitVec.toInt = _
    rw [BitVec.toInt_eq_toNat_of_lt (by omega)]
  omega
theorem bt_b (v sh : Int) : 0 ≤ bt v sh ∧ bt v sh ≤ 255 := and255_b _
theorem bt_z (v sh : Int) : (zI v >>> (zI sh &&& zI 31)) &&& zI 255 = zI (bt v sh) := (zI_of _).symm
theorem sg_d : ∀ m : Fin 256, (Int32.toInt8 (zI (m.val : Int))).toInt32 = zI (sg m.val) := by decide +kernel
theorem nar8 (x : Int32) : Int32.toInt8 x = Int32.toInt8 (x &&& zI 255) := by
  refine Int8.toBitVec_inj.1 ?_
  show x.toBitVec.signExtend 8 = (x &&& zI 255).toBitVec.signExtend 8
  rw [Int32.toBitVec_and]
  refine BitVec.eq_of_getLsbD_eq fun i hi => ?_
  rw [BitVec.getLsbD_signExtend, BitVec.getLsbD_signExtend]
  have e : ∀ i : Fin 8, (zI 255).toBitVec.getLsbD i.val = true := by decide
  have := e ⟨i, hi⟩
  dsimp only at this
  rw [BitVec.getLsbD_and, this, Bool.and_true]
  simp [show i < 32 by omega]
theorem sg_z (x : Int32) : (Int32.toInt8 x).toInt32 = zI (sg (x &&& zI 255).toInt) := by
  have b := and255_b x
  obtain ⟨m, hm⟩ := Int.eq_ofNat_of_zero_le b.1
  have := sg_d ⟨m, by omega⟩
  dsimp only at this
  rw [nar8, hm, ← this, ← hm, zI_of]
theorem sg_n {b : Int} (h : 0 ≤ b ∧ b ≤ 255) : vp_nar .byte (zI (sg b)) = zI (sg b) := by
  obtain ⟨m, rfl⟩ := Int.eq_ofNat_of_zero_le h.1
  have e : ∀ m : Fin 256, vp_nar .byte (zI (sg m.val)) = zI (sg m.val) := by decide +kernel
  exact e ⟨m, by omega⟩
section FD
variable {d : Nat} {I : Nat → Nat → Int} {A : Nat → Int → Int} {W : qWt}
def p4 (g : Int → Int) (n v : Int) : Int → Int := up (up (up (up g n (sg (bt v 24))) (n + 1) (sg (bt v 16))) (n + 2) (sg (bt v 8))) (n + 3) (sg (bt v 0))
theorem c_put {v : Int} (hd : 1 ≤ d) (h : 0 ≤ I 3 1 ∧ I 3 1 ≤ 596) : q_call q_MT d 101 [.ref 3, .int (zI v)] (zM I A W) = some (.inl none, zM (u2 I 3 1 (I 3 1 + 4)) (ua A 4 (p4 (A 4) (I 3 1) v)) W) := by
  obtain ⟨d, rfl⟩ : ∃ e, d = e + 1 := ⟨d - 1, by omega⟩
  have st : ∀ (I : Nat → Nat → Int) (A : Nat → Int → Int) (sh : Int), 0 ≤ I 3 1 → I 3 1 < 600 → 0 ≤ sh → sh ≤ 24 → q_run qm_X9_put (q_call q_MT d) 3 [.ref 3, .int (zI v), .int (zI sh)] [] (zM I A W) = q_run qm_X9_put (q_call q_MT d) 3 [.ref 3, .int (zI v), .int (zI (sh + -8))] [] (zM (u2 I 3 1 (I 3 1 + 1)) (ua A 4 (up (A 4) (I 3 1) (sg (bt v sh)))) W) := by
    intro I A sh h0 h1 s0 s1
    have e : (Int32.toInt8 (zI v >>> (zI sh &&& zI 31))).toInt32 = zI (sg (bt v sh)) := sg_z _
    have zs := fun k => zs_4 (I := I) (A := A) (W := W) (j := I 3 1) (x := sg (bt v sh)) (v := zI (sg (bt v sh))) (k := k) h0 h1 (sg_n (bt_b v sh))
    rw [k_X9_put_3]
    simp only [lz, e]
    simp (implicitDefEqProofs := false) (disch := omega) only [↓rI_s, ↓rV_s, ↓rI_e, ↓rV_e, zc_eq, zc_ne, zc_lt, zc_ge, zc_gt, zc_le, zlt_t, zlt_f, zle_t, zle_f, zeq_t, zeq_f, lz, zadd, zsub, zmul, zneg, zb_e0, zb_e1, boo0, boo1, ua_s, ua_n, ua_ua, up_s, u2_s, u2_f, u2_c, u2_u2, Int.natCast_add, Int.zero_add, Int.add_zero, ↓reduceIte, ne_eq, not_true_eq_false, not_false_eq_true, Int.natCast_one, ↓zg_3_1, ↓zg_3_0, ↓zn_4, zs, ↓zp_3_1, ↓k_X9_put_49]
  rw [cl_X9_put]
  simp (implicitDefEqProofs := false) (disch := omega) only [↓rI_s, ↓rV_s, ↓rI_e, ↓rV_e, zc_eq, zc_ne, zc_lt, zc_ge, zc_gt, zc_le, zlt_t, zlt_f, zle_t, zle_f, zeq_t, zeq_f, lz, zadd, zsub, zmul, zneg, zb_e0, zb_e1, boo0, boo1, ua_s, ua_n, ua_ua, up_s, u2_s, u2_f, u2_c, u2_u2, Int.natCast_add, Int.zero_add, Int.add_zero, ↓reduceIte, ne_eq, not_true_eq_false, not_false_eq_true, Int.natCast_one, ↓k_X9_put_0]
  rw [st I A 24 (by omega) (by omega) (by decide) (by decide)]
  rw [st _ _ (24 + -8) (by rw [u2_s]; omega) (by rw [u2_s]; omega) (by decide) (by decide), u2_s, u2_u2, ua_s, ua_ua]
  rw [st _ _ (24 + -8 + -8) (by rw [u2_s]; omega) (by rw [u2_s]; omega) (by decide) (by decide), u2_s, u2_u2, ua_s, ua_ua]
  rw [st _ _ (24 + -8 + -8 + -8) (by rw [u2_s]; omega) (by rw [u2_s]; omega) (by decide) (by decide), u2_s, u2_u2, ua_s, ua_ua]
  rw [k_X9_put_3]
  simp (implicitDefEqProofs := false) (disch := omega) only [↓rI_s, ↓rV_s, ↓rI_e, ↓rV_e, zc_eq, zc_ne, zc_lt, zc_ge, zc_gt, zc_le, zlt_t, zlt_f, zle_t, zle_f, zeq_t, zeq_f, lz, zadd, zsub, zmul, zneg, zb_e0, zb_e1, boo0, boo1, ua_s, ua_n, ua_ua, up_s, u2_s, u2_f, u2_c, u2_u2, Int.natCast_add, Int.zero_add, Int.add_zero, ↓reduceIte, ne_eq, not_true_eq_false, not_false_eq_true, Int.natCast_one]
  unfold p4
  rw [show I 3 1 + 1 + 1 + 1 + 1 = I 3 1 + 4 by omega, show I 3 1 + 1 + 1 + 1 = I 3 1 + 3 by omega, show I 3 1 + 1 + 1 = I 3 1 + 2 by omega]
  rfl
def fdB (a b c e f j : Int) : Int := bt (if j < 4 then a else if j < 8 then b else if j < 12 then c else if j < 16 then e else f) (24 - 8 * (j - j / 4 * 4))
def fdC (g : Int → Int) (n a b c e f : Int) : Int → Int := p4 (p4 (p4 (p4 (p4 g n a) (n + 4) b) (n + 8) c) (n + 12) e) (n + 16) f
theorem p4_o {g : Int → Int} {n v j : Int} (h : j < n ∨ n + 4 ≤ j) : p4 g n v j = g j := by
  unfold p4
  rw [up_n (by omega), up_n (by omega), up_n (by omega), up_n (by omega)]
theorem p4_i {g : Int → Int} {n v j : Int} (h0 : 0 ≤ j) (h1 : j < 4) : p4 g n v (n + j) = sg (bt v (24 - 8 * j)) := by
  unfold p4
  have : j = 0 ∨ j = 1 ∨ j = 2 ∨ j = 3 := by omega
  rcases this with rfl | rfl | rfl | rfl
  · rw [up_n (by omega), up_n (by omega), up_n (by omega), Int.add_zero, up_s]; rfl
  · rw [up_n (by omega), up_n (by omega), up_s]; rfl
  · rw [up_n (by omega), up_s]; rfl
  · rw [up_s]; rfl
theorem fdC_o {g : Int → Int} {n a b c e f j : Int} (h : j < n ∨ n + 20 ≤ j) : fdC g n a b c e f j = g j := by
  unfold fdC
  rw [p4_o (by omega), p4_o (by omega), p4_o (by omega), p4_o (by omega), p4_o (by omega)]
theorem fdC_i {g : Int → Int} {n a b c e f j : Int} (h0 : 0 ≤ j) (h1 : j < 20) : fdC g n a b c e f (n + j) = sg (fdB a b c e f j) := by
  unfold fdC fdB
  by_cases q1 : j < 4
  · rw [if_pos q1, p4_o (by omega), p4_o (by omega), p4_o (by omega), p4_o (by omega), p4_i h0 q1, show j - j / 4 * 4 = j by omega]
  · rw [if_neg q1]
    by_cases q2 : j < 8
    · rw [if_pos q2, p4_o (by omega), p4_o (by omega), p4_o (by omega), show n + j = n + 4 + (j - 4) by omega, p4_i (by omega) (by omega), show j - j / 4 * 4 = j - 4 by omega]
    · rw [if_neg q2]
      by_cases q3 : j < 12
      · rw [if_pos q3, p4_o (by omega), p4_o (by omega), show n + j = n + 8 + (j - 8) by omega, p4_i (by omega) (by omega), show j - j / 4 * 4 = j - 8 by omega]
      · rw [if_neg q3]
        by_cases q4 : j < 16
        · rw [if_pos q4, p4_o (by omega), show n + j = n + 12 + (j - 12) by omega, p4_i (by omega) (by omega), show j - j / 4 * 4 = j - 12 by omega]
        · rw [if_neg q4, show n + j = n + 16 + (j - 16) by omega, p4_i (by omega) (by omega), show j - j / 4 * 4 = j - 16 by omega]
theorem C_feed {a b c e f : Int} (hd : 2 ≤ d) (h : 0 ≤ I 3 1 ∧ I 3 1 ≤ 600) : q_call q_MT d 113 [.ref 2, .int (zI a), .int (zI b), .int (zI c), .int (zI e), .int (zI f)] (zM I A W) = if I 3 1 + 20 ≤ 600 then some (.inl (some (.int (zI (I 3 1 + 20)))), zM (u2 I 3 1 (I 3 1 + 20)) (ua A 4 (fdC (A 4) (I 3 1) a b c e f)) W) else some (.inl (some (.int (zI (-1)))), zM I A W) := by
  obtain ⟨d, rfl⟩ : ∃ e, d = e + 1 := ⟨d - 1, by omega⟩
  rw [cl_X10_feed]
  by_cases q : I 3 1 + 20 ≤ 600
  · rw [if_pos q]
    have e1 := c_put (I := I) (A := A) (W := W) (d := d) (v := a) (by omega) (by omega)
    have e2 := c_put (I := u2 I 3 1 (I 3 1 + 4)) (A := ua A 4 (p4 (A 4) (I 3 1) a)) (W := W) (d := d) (v := b) (by omega) (by rw [u2_s]; omega)
    rw [u2_s, u2_u2, ua_s, ua_ua, show I 3 1 + 4 + 4 = I 3 1 + 8 by omega] at e2
    have e3 := c_put (I := u2 I 3 1 (I 3 1 + 8)) (A := ua A 4 (p4 (p4 (A 4) (I 3 1) a) (I 3 1 + 4) b)) (W := W) (d := d) (v := c) (by omega) (by rw [u2_s]; omega)
    rw [u2_s, u2_u2, ua_s, ua_ua, show I 3 1 + 8 + 4 = I 3 1 + 12 by omega] at e3
    have e4 := c_put (I := u2 I 3 1 (I 3 1 + 12)) (A := ua A 4 (p4 (p4 (p4 (A 4) (I 3 1) a) (I 3 1 + 4) b) (I 3 1 + 8) c)) (W := W) (d := d) (v := e) (by omega) (by rw [u2_s]; omega)
    rw [u2_s, u2_u2, ua_s, ua_ua, show I 3 1 + 12 + 4 = I 3 1 + 16 by omega] at e4
    have e5 := c_put (I := u2 I 3 1 (I 3 1 + 16)) (A := ua A 4 (p4 (p4 (p4 (p4 (A 4) (I 3 1) a) (I 3 1 + 4) b) (I 3 1 + 8) c) (I 3 1 + 12) e)) (W := W) (d := d) (v := f) (by omega) (by rw [u2_s]; omega)
    rw [u2_s, u2_u2, ua_s, ua_ua, show I 3 1 + 16 + 4 = I 3 1 + 20 by omega] at e5
    simp (implicitDefEqProofs := false) (disch := omega) only [↓rI_s, ↓rV_s, ↓rI_e, ↓rV_e, zc_eq, zc_ne, zc_lt, zc_ge, zc_gt, zc_le, zlt_t, zlt_f, zle_t, zle_f, zeq_t, zeq_f, lz, zadd, zsub, zmul, zneg, zb_e0, zb_e1, boo0, boo1, ua_s, ua_n, ua_ua, up_s, u2_s, u2_f, u2_c, u2_u2, Int.natCast_add, Int.zero_add, Int.add_zero, ↓reduceIte, ne_eq, not_true_eq_false, not_false_eq_true, Int.natCast_one, ↓k_X10_feed_0, ↓zg_2_0, ↓zg_3_1, ↓mc_3, e1, e2, e3, e4, e5]
    rfl
  · rw [if_neg q]
    simp (implicitDefEqProofs := false) (disch := omega) only [↓rI_s, ↓rV_s, ↓rI_e, ↓rV_e, zc_eq, zc_ne, zc_lt, zc_ge, zc_gt, zc_le, zlt_t, zlt_f, zle_t, zle_f, zeq_t, zeq_f, lz, zadd, zsub, zmul, zneg, zb_e0, zb_e1, boo0, boo1, ua_s, ua_n, ua_ua, up_s, u2_s, u2_f, u2_c, u2_u2, Int.natCast_add, Int.zero_add, Int.add_zero, ↓reduceIte, ne_eq, not_true_eq_false, not_false_eq_true, Int.natCast_one, ↓k_X10_feed_0, ↓zg_2_0, ↓zg_3_1]
theorem M_feed {a b c e f : Int} (hd : 1 ≤ d) (h : 0 ≤ I 59 2 ∧ I 59 2 ≤ 600) : ∃ g, (∀ j : Int, j < I 59 2 ∨ I 59 2 + 20 ≤ j → g j = A 61 j) ∧ (∀ j : Int, 0 ≤ j → j < 20 → I 59 2 + 20 ≤ 600 → g (I 59 2 + j) = fdB a b c e f j) ∧ q_call q_MT d 167 [.ref 59, .int (zI a), .int (zI b), .int (zI c), .int (zI e), .int (zI f)] (zM I A W) = if I 59 2 + 20 ≤ 600 then some (.inl (some (.int (zI (I 59 2 + 20)))), zM (u2 (u2 I 59 0 0) 59 2 (I 59 2 + 20)) (ua A 61 g) W) else some (.inl (some (.int (zI (-1)))), zM (u2 I 59 0 0) A W) := by
  obtain ⟨d, rfl⟩ : ∃ e, d = e + 1 := ⟨d - 1, by omega⟩
  rw [cl_X11_feed]
  by_cases q : I 59 2 + 20 ≤ 600
  · simp only [if_pos q]
    simp (implicitDefEqProofs := false) (disch := omega) only [↓rI_s, ↓rV_s, ↓rI_e, ↓rV_e, zc_eq, zc_ne, zc_lt, zc_ge, zc_gt, zc_le, zlt_t, zlt_f, zle_t, zle_f, zeq_t, zeq_f, lz, zadd, zsub, zmul, zneg, zb_e0, zb_e1, boo0, boo1, ua_s, ua_n, ua_ua, up_s, u2_s, u2_f, u2_c, u2_u2, Int.natCast_add, Int.zero_add, Int.add_zero, ↓reduceIte, ne_eq, not_true_eq_false, not_false_eq_true, Int.natCast_one, ↓k_X11_feed_0, ↓zp_59_0, ↓zg_59_2]
    have hid : ua A 61 (A 61) = A := ua_id
    have hiI : u2 (u2 I 59 0 0) 59 2 (I 59 2 + ((0 : Nat) : Int)) = u2 I 59 0 0 := by
      rw [show I 59 2 + ((0 : Nat) : Int) = u2 I 59 0 0 59 2 by rw [u2_f (by decide)]; omega]; exact u2_id
    conv => enter [1, g, 2, 2, 1]; rw [← hid, ← hiI]
    refine lp_x (fun j (B : (Int → Int) × Value) => q_run qm_X11_feed (q_call q_MT d) 23 [.ref 59, .int (zI a), .int (zI b), .int (zI c), .int (zI e), .int (zI f), .int (zI j), B.2] [] (zM (u2 (u2 I 59 0 0) 59 2 (I 59 2 + j)) (ua A 61 B.1) W)) (fun j B => (∀ i : Int, i < I 59 2 ∨ I 59 2 + 20 ≤ i → B.1 i = A 61 i) ∧ ∀ i : Int, 0 ≤ i → i < j → B.1 (I 59 2 + i) = fdB a b c e f i) (fun r => ∃ g, (∀ j : Int, j < I 59 2 ∨ I 59 2 + 20 ≤ j → g j = A 61 j) ∧ (∀ j : Int, 0 ≤ j → j < 20 → I 59 2 + 20 ≤ 600 → g (I 59 2 + j) = fdB a b c e f j) ∧ r = some (.inl (some (.int (zI (I 59 2 + 20)))), zM (u2 (u2 I 59 0 0) 59 2 (I 59 2 + 20)) (ua A 61 g) W)) 20 ?_ ?_ 0 (A 61, q_junk) (by omega) ⟨fun i _ => rfl, fun i i0 i1 => by omega⟩
    · rintro ⟨g, l7⟩ ⟨g1, g2⟩
      refine ⟨g, g1, fun j j0 j1 _ => g2 j j0 j1, ?_⟩
      dsimp only
      rw [k_X11_feed_23]
      simp (implicitDefEqProofs := false) (disch := omega) only [↓rI_s, ↓rV_s, ↓rI_e, ↓rV_e, zc_eq, zc_ne, zc_lt, zc_ge, zc_gt, zc_le, zlt_t, zlt_f, zle_t, zle_f, zeq_t, zeq_f, lz, zadd, zsub, zmul, zneg, zb_e0, zb_e1, boo0, boo1, ua_s, ua_n, ua_ua, up_s, u2_s, u2_f, u2_c, u2_u2, Int.natCast_add, Int.zero_add, Int.add_zero, ↓reduceIte, ne_eq, not_true_eq_false, not_false_eq_true, Int.natCast_one, ↓zg_59_2]
      rfl
    · rintro j ⟨g, l7⟩ hj ⟨g1, g2⟩
      dsimp only at g1 g2 ⊢
      have key : ∀ (v : Int) (l7 : Value), v = (if (j : Int) < 4 then a else if (j : Int) < 8 then b else if (j : Int) < 12 then c else if (j : Int) < 16 then e else f) → q_run qm_X11_feed (q_call q_MT d) 76 [.ref 59, .int (zI a), .int (zI b), .int (zI c), .int (zI e), .int (zI f), .int (zI j), l7] [.int (zI v)] (zM (u2 (u2 I 59 0 0) 59 2 (I 59 2 + j)) (ua A 61 g) W) = q_run qm_X11_feed (q_call q_MT d) 23 [.ref 59, .int (zI a), .int (zI b), .int (zI c), .int (zI e), .int (zI f), .int (zI ((j : Int) + 1)), .int (zI v)] [] (zM (u2 (u2 I 59 0 0) 59 2 (I 59 2 + ((j + 1 : Nat) : Int))) (ua A 61 (up g (I 59 2 + j) (fdB a b c e f j))) W) := by
        intro v l7 hv
        have eb : fdB a b c e f j = bt v (24 - 8 * ((j : Int) - (j : Int) / 4 * 4)) := by unfold fdB; rw [← hv]
        rw [k_X11_feed_76, eb, show I 59 2 + ((j + 1 : Nat) : Int) = I 59 2 + j + 1 by omega]
        simp (implicitDefEqProofs := false) (disch := omega) only [↓rI_s, ↓rV_s, ↓rI_e, ↓rV_e, zc_eq, zc_ne, zc_lt, zc_ge, zc_gt, zc_le, zlt_t, zlt_f, zle_t, zle_f, zeq_t, zeq_f, lz, zadd, zsub, zmul, zneg, zb_e0, zb_e1, boo0, boo1, ua_s, ua_n, ua_ua, up_s, u2_s, u2_f, u2_c, u2_u2, Int.natCast_add, Int.zero_add, Int.add_zero, ↓reduceIte, ne_eq, not_true_eq_false, not_false_eq_true, Int.natCast_one, ↓zg_59_9, ↓zg_59_2, zdiv, bt_z, zs_61, ↓zp_59_2]
      have inv : (∀ i : Int, i < I 59 2 ∨ I 59 2 + 20 ≤ i → up g (I 59 2 + j) (fdB a b c e f j) i = A 61 i) ∧ ∀ i : Int, 0 ≤ i → i < ((j + 1 : Nat) : Int) → up g (I 59 2 + j) (fdB a b c e f j) (I 59 2 + i) = fdB a b c e f i := by
        refine ⟨fun i hi => by rw [up_n (by omega)]; exact g1 i hi, fun i i0 i1 => ?_⟩
        by_cases e : i = j
        · subst e; rw [up_s]
        · rw [up_n (by omega)]; exact g2 i i0 (by omega)
      rw [k_X11_feed_23]
      by_cases q1 : (j : Int) < 4
      · refine .inr ⟨(up g (I 59 2 + j) (fdB a b c e f j), .int (zI a)), inv, ?_⟩
        have k1 := key a l7 (by rw [if_pos q1])
        simp (implicitDefEqProofs := false) (disch := omega) only [↓rI_s, ↓rV_s, ↓rI_e, ↓rV_e, zc_eq, zc_ne, zc_lt, zc_ge, zc_gt, zc_le, zlt_t, zlt_f, zle_t, zle_f, zeq_t, zeq_f, lz, zadd, zsub, zmul, zneg, zb_e0, zb_e1, boo0, boo1, ua_s, ua_n, ua_ua, up_s, u2_s, u2_f, u2_c, u2_u2, Int.natCast_add, Int.zero_add, Int.add_zero, ↓reduceIte, ne_eq, not_true_eq_false, not_false_eq_true, Int.natCast_one]
        exact k1
      by_cases q2 : (j : Int) < 8
      · refine .inr ⟨(up g (I 59 2 + j) (fdB a b c e f j), .int (zI b)), inv, ?_⟩
        have k1 := key b l7 (by rw [if_neg q1, if_pos q2])
        simp (implicitDefEqProofs := false) (disch := omega) only [↓rI_s, ↓rV_s, ↓rI_e, ↓rV_e, zc_eq, zc_ne, zc_lt, zc_ge, zc_gt, zc_le, zlt_t, zlt_f, zle_t, zle_f, zeq_t, zeq_f, lz, zadd, zsub, zmul, zneg, zb_e0, zb_e1, boo0, boo1, ua_s, ua_n, ua_ua, up_s, u2_s, u2_f, u2_c, u2_u2, Int.natCast_add, Int.zero_add, Int.add_zero, ↓reduceIte, ne_eq, not_true_eq_false, not_false_eq_true, Int.natCast_one]
        exact k1
      by_cases q3 : (j : Int) < 12
      · refine .inr ⟨(up g (I 59 2 + j) (fdB a b c e f j), .int (zI c)), inv, ?_⟩
        have k1 := key c l7 (by rw [if_neg q1, if_neg q2, if_pos q3])
        simp (implicitDefEqProofs := false) (disch := omega) only [↓rI_s, ↓rV_s, ↓rI_e, ↓rV_e, zc_eq, zc_ne, zc_lt, zc_ge, zc_gt, zc_le, zlt_t, zlt_f, zle_t, zle_f, zeq_t, zeq_f, lz, zadd, zsub, zmul, zneg, zb_e0, zb_e1, boo0, boo1, ua_s, ua_n, ua_ua, up_s, u2_s, u2_f, u2_c, u2_u2, Int.natCast_add, Int.zero_add, Int.add_zero, ↓reduceIte, ne_eq, not_true_eq_false, not_false_eq_true, Int.natCast_one]
        exact k1
      by_cases q4 : (j : Int) < 16
      · refine .inr ⟨(up g (I 59 2 + j) (fdB a b c e f j), .int (zI e)), inv, ?_⟩
        have k1 := key e l7 (by rw [if_neg q1, if_neg q2, if_neg q3, if_pos q4])
        simp (implicitDefEqProofs := false) (disch := omega) only [↓rI_s, ↓rV_s, ↓rI_e, ↓rV_e, zc_eq, zc_ne, zc_lt, zc_ge, zc_gt, zc_le, zlt_t, zlt_f, zle_t, zle_f, zeq_t, zeq_f, lz, zadd, zsub, zmul, zneg, zb_e0, zb_e1, boo0, boo1, ua_s, ua_n, ua_ua, up_s, u2_s, u2_f, u2_c, u2_u2, Int.natCast_add, Int.zero_add, Int.add_zero, ↓reduceIte, ne_eq, not_true_eq_false, not_false_eq_true, Int.natCast_one]
        exact k1
      · refine .inr ⟨(up g (I 59 2 + j) (fdB a b c e f j), .int (zI f)), inv, ?_⟩
        have k1 := key f l7 (by rw [if_neg q1, if_neg q2, if_neg q3, if_neg q4])
        simp (implicitDefEqProofs := false) (disch := omega) only [↓rI_s, ↓rV_s, ↓rI_e, ↓rV_e, zc_eq, zc_ne, zc_lt, zc_ge, zc_gt, zc_le, zlt_t, zlt_f, zle_t, zle_f, zeq_t, zeq_f, lz, zadd, zsub, zmul, zneg, zb_e0, zb_e1, boo0, boo1, ua_s, ua_n, ua_ua, up_s, u2_s, u2_f, u2_c, u2_u2, Int.natCast_add, Int.zero_add, Int.add_zero, ↓reduceIte, ne_eq, not_true_eq_false, not_false_eq_true, Int.natCast_one]
        exact k1
  · simp only [if_neg q]
    refine ⟨A 61, fun j _ => rfl, fun j _ _ h => absurd h q, ?_⟩
    simp (implicitDefEqProofs := false) (disch := omega) only [↓rI_s, ↓rV_s, ↓rI_e, ↓rV_e, zc_eq, zc_ne, zc_lt, zc_ge, zc_gt, zc_le, zlt_t, zlt_f, zle_t, zle_f, zeq_t, zeq_f, lz, zadd, zsub, zmul, zneg, zb_e0, zb_e1, boo0, boo1, ua_s, ua_n, ua_ua, up_s, u2_s, u2_f, u2_c, u2_u2, Int.natCast_add, Int.zero_add, Int.add_zero, ↓reduceIte, ne_eq, not_true_eq_false, not_false_eq_true, Int.natCast_one, ↓k_X11_feed_0, ↓zp_59_0, ↓zg_59_2]
end FD
