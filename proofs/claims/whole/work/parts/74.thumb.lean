--DEPS 71.q2 72.would 73.gain
/-! A shaky thumb. -/
def worth (R : zR) (F : zF) (s : Int → Int) (w p b : Int) : Int := if b = 0 then (if 1 < paid R F s w p 0 then 1 else paid R F s w p 0) else paid R F s w p 0
theorem worth_b {R : zR} {F : zF} {s : Int → Int} {w p b : Int} (hR : wR R) : 0 ≤ worth R F s w p b ∧ worth R F s w p b ≤ 99 := by
  have := paid_b (F := F) (s := s) (w := w) (p := p) (h := 0) hR
  unfold worth
  split <;> (try split) <;> omega
def thm (R : zR) (F : zF) (s : Int → Int) (w p q b : Int) : Int := 2 * q * worth R F s w p b + (16 - q) * (worth R F s w (if p - 1 < 1 then 1 else p - 1) b + worth R F s w (if 9 < p + 1 then 9 else p + 1) b)
theorem thm_b {q a b c : Int} (h0 : 0 ≤ q) (h1 : q ≤ 16) (ha : 0 ≤ a ∧ a ≤ 99) (hb : 0 ≤ b ∧ b ≤ 99) (hc : 0 ≤ c ∧ c ≤ 99) : 0 ≤ 2 * q * a + (16 - q) * (b + c) ∧ 2 * q * a + (16 - q) * (b + c) ≤ 6400 := by
  have : q = 0 ∨ q = 1 ∨ q = 2 ∨ q = 3 ∨ q = 4 ∨ q = 5 ∨ q = 6 ∨ q = 7 ∨ q = 8 ∨ q = 9 ∨ q = 10 ∨ q = 11 ∨ q = 12 ∨ q = 13 ∨ q = 14 ∨ q = 15 ∨ q = 16 := by omega
  rcases this with rfl | rfl | rfl | rfl | rfl | rfl | rfl | rfl | rfl | rfl | rfl | rfl | rfl | rfl | rfl | rfl | rfl <;> omega
def hv : Nat → Int → Int → Int × Int
  | 0, a, b => (a, b)
  | f + 1, a, b => if 1 < b ∧ a - a / 2 * 2 = 0 then hv f (a / 2) (b / 2) else (a, b)
def gc : Nat → Int → Int → Int
  | 0, x, _ => x
  | f + 1, x, y => if y = 0 then x else gc f y (x - x / y * y)
theorem hv_gc' : ∀ a : Fin 101, ∀ b : Fin 64, hv 5 ((64 * a.val + b.val : Nat) : Int) 32 = (((64 * a.val + b.val : Nat) : Int) / gc 32 (64 * a.val + b.val : Nat) 32, 32 / gc 32 (64 * a.val + b.val : Nat) 32) ∧ 0 < gc 32 ((64 * a.val + b.val : Nat) : Int) 32 := by decide +kernel
theorem hv_gc (m : Nat) (h : m ≤ 6400) : hv 5 (m : Int) 32 = ((m : Int) / gc 32 m 32, 32 / gc 32 m 32) ∧ 0 < gc 32 (m : Int) 32 := by
  have := hv_gc' ⟨m / 64, by omega⟩ ⟨m % 64, by omega⟩
  dsimp only at this
  rwa [show 64 * (m / 64) + m % 64 = m by omega] at this
theorem emd {x y : Int} (h0 : 0 ≤ x) (hy : 0 < y) : 0 ≤ x - x / y * y ∧ x - x / y * y < y := by
  have e : x - x / y * y = x % y := by rw [Int.emod_def, Int.mul_comm]
  rw [e]
  exact ⟨Int.emod_nonneg x (by omega), Int.emod_lt_of_pos x hy⟩
def vThumb (R : zR) (F : zF) (s : Int → Int) (w p q k b : Int) : Int := if k = 0 then (hv 5 (thm R F s w p q b) 32).1 else (hv 5 (thm R F s w p q b) 32).2
section TH
variable {d : Nat} {I : Nat → Nat → Int} {A : Nat → Int → Int} {W : qWt} {R : zR} {F : zF} {s : Int → Int}
theorem c_worthOf {w p b : Int} (hd : 6 ≤ d) (hX : cX R F s I A) (h0 : 0 ≤ w) (h1 : w < rW R) (hb : b = 0 ∨ b = 1) : ∃ A', fr [22, 23] A A' ∧ q_call q_MT d 10 [.ref 45, .int (zI w), .int (zI p), .int (zI b)] (zM I A W) = some (.inl (some (.int (zI (worth R F s w p b)))), zM I A' W) := by
  obtain ⟨d, rfl⟩ : ∃ e, d = e + 1 := ⟨d - 1, by omega⟩
  obtain ⟨A', f, e⟩ := c_paidFor (p := p) (h := 0) (W := W) (show 5 ≤ d by omega) hX h0 h1 (.inl rfl)
  have pb := paid_b (F := F) (s := s) (w := w) (p := p) (h := 0) hX.1.1
  refine ⟨A', f, ?_⟩
  rw [cl_X0_worthOf]
  rcases hb with rfl | rfl
  · simp (implicitDefEqProofs := false) (disch := omega) only [↓rI_s, ↓rV_s, ↓rI_e, ↓rV_e, zc_eq, zc_ne, zc_lt, zc_ge, zc_gt, zc_le, zlt_t, zlt_f, zle_t, zle_f, zeq_t, zeq_f, lz, zadd, zsub, zmul, zneg, zb_e0, zb_e1, boo0, boo1, ua_s, ua_n, ua_ua, up_s, u2_s, u2_f, u2_c, u2_u2, Int.natCast_add, Int.zero_add, Int.add_zero, ↓reduceIte, ne_eq, not_true_eq_false, not_false_eq_true, Int.natCast_one, ↓k_X0_worthOf_0, ↓k_X0_worthOf_24, ↓mc_45, e, zif]; rfl
  · simp (implicitDefEqProofs := false) (disch := omega) only [↓rI_s, ↓rV_s, ↓rI_e, ↓rV_e, zc_eq, zc_ne, zc_lt, zc_ge, zc_gt, zc_le, zlt_t, zlt_f, zle_t, zle_f, zeq_t, zeq_f, lz, zadd, zsub, zmul, zneg, zb_e0, zb_e1, boo0, boo1, ua_s, ua_n, ua_ua, up_s, u2_s, u2_f, u2_c, u2_u2, Int.natCast_add, Int.zero_add, Int.add_zero, ↓reduceIte, ne_eq, not_true_eq_false, not_false_eq_true, Int.natCast_one, ↓k_X0_worthOf_0, ↓k_X0_worthOf_24, ↓mc_45, e]; rfl
theorem c_halve {l1 l2 l3 l4 l5 l6 : Value} : ∀ (f : Nat) (a b : Int), 0 ≤ a → a ≤ 10000 → 0 ≤ b → b ≤ 2 ^ f → f ≤ 5 → q_run qm_X0_weighThumb (q_call q_MT d) 66 [.ref 45, l1, l2, l3, l4, l5, l6] [] (zM (u2 (u2 I 45 11 a) 45 12 b) A W) = some (.inl none, zM (u2 (u2 I 45 11 (hv f a b).1) 45 12 (hv f a b).2) A W)
  | 0, a, b, a0, a1, b0, b1, _ => by
    have b1' : b ≤ 1 := b1
    rw [k_X0_weighThumb_66]
    simp (implicitDefEqProofs := false) (disch := omega) only [↓rI_s, ↓rV_s, ↓rI_e, ↓rV_e, zc_eq, zc_ne, zc_lt, zc_ge, zc_gt, zc_le, zlt_t, zlt_f, zle_t, zle_f, zeq_t, zeq_f, lz, zadd, zsub, zmul, zneg, zb_e0, zb_e1, boo0, boo1, ua_s, ua_n, ua_ua, up_s, u2_s, u2_f, u2_c, u2_u2, Int.natCast_add, Int.zero_add, Int.add_zero, ↓reduceIte, ne_eq, not_true_eq_false, not_false_eq_true, Int.natCast_one, ↓zg_45_12, ↓k_X0_weighThumb_106]
    rfl
  | f + 1, a, b, a0, a1, b0, b1, hf => by
    have b2 : (2 : Int) ^ (f + 1) = 2 * 2 ^ f := by rw [Int.pow_succ, Int.mul_comm]
    have b3 : b ≤ 32 := by
      have : f = 0 ∨ f = 1 ∨ f = 2 ∨ f = 3 ∨ f = 4 := by omega
      rcases this with rfl | rfl | rfl | rfl | rfl <;> simp at b1 <;> omega
    rw [k_X0_weighThumb_66]
    unfold hv
    by_cases q1 : 1 < b
    · by_cases q2 : a - a / 2 * 2 = 0
      · rw [if_pos (show 1 < b ∧ a - a / 2 * 2 = 0 from ⟨q1, q2⟩)]
        simp (implicitDefEqProofs := false) (disch := omega) only [↓rI_s, ↓rV_s, ↓rI_e, ↓rV_e, zc_eq, zc_ne, zc_lt, zc_ge, zc_gt, zc_le, zlt_t, zlt_f, zle_t, zle_f, zeq_t, zeq_f, lz, zadd, zsub, zmul, zneg, zb_e0, zb_e1, boo0, boo1, ua_s, ua_n, ua_ua, up_s, u2_s, u2_f, u2_c, u2_u2, Int.natCast_add, Int.zero_add, Int.add_zero, ↓reduceIte, ne_eq, not_true_eq_false, not_false_eq_true, Int.natCast_one, ↓zg_45_12, ↓zg_45_11, zdiv, ↓zp_45_11, ↓zp_45_12, u2_4]
        exact c_halve f (a / 2) (b / 2) (by omega) (by omega) (by omega) (by omega) (by omega)
      · rw [if_neg (show ¬ (1 < b ∧ a - a / 2 * 2 = 0) from fun q => q2 q.2)]
        simp (implicitDefEqProofs := false) (disch := omega) only [↓rI_s, ↓rV_s, ↓rI_e, ↓rV_e, zc_eq, zc_ne, zc_lt, zc_ge, zc_gt, zc_le, zlt_t, zlt_f, zle_t, zle_f, zeq_t, zeq_f, lz, zadd, zsub, zmul, zneg, zb_e0, zb_e1, boo0, boo1, ua_s, ua_n, ua_ua, up_s, u2_s, u2_f, u2_c, u2_u2, Int.natCast_add, Int.zero_add, Int.add_zero, ↓reduceIte, ne_eq, not_true_eq_false, not_false_eq_true, Int.natCast_one, ↓zg_45_12, ↓zg_45_11, zdiv, ↓k_X0_weighThumb_106]
    · rw [if_neg (show ¬ (1 < b ∧ a - a / 2 * 2 = 0) from fun q => q1 q.1)]
      simp (implicitDefEqProofs := false) (disch := omega) only [↓rI_s, ↓rV_s, ↓rI_e, ↓rV_e, zc_eq, zc_ne, zc_lt, zc_ge, zc_gt, zc_le, zlt_t, zlt_f, zle_t, zle_f, zeq_t, zeq_f, lz, zadd, zsub, zmul, zneg, zb_e0, zb_e1, boo0, boo1, ua_s, ua_n, ua_ua, up_s, u2_s, u2_f, u2_c, u2_u2, Int.natCast_add, Int.zero_add, Int.add_zero, ↓reduceIte, ne_eq, not_true_eq_false, not_false_eq_true, Int.natCast_one, ↓zg_45_12, ↓k_X0_weighThumb_106]
theorem c_weighThumb {w p q b : Int} (hd : 7 ≤ d) (hX : cX R F s I A) (h0 : 0 ≤ w) (h1 : w < rW R) (hp : 1 ≤ p ∧ p ≤ 9) (hq : 0 ≤ q ∧ q ≤ 16) (hb : b = 0 ∨ b = 1) : ∃ A', fr [22, 23] A A' ∧ q_call q_MT d 9 [.ref 45, .int (zI w), .int (zI p), .int (zI q), .int (zI b)] (zM I A W) = some (.inl none, zM (u2 (u2 I 45 11 (hv 5 (thm R F s w p q b) 32).1) 45 12 (hv 5 (thm R F s w p q b) 32).2) A' W) := by
  obtain ⟨d, rfl⟩ : ∃ e, d = e + 1 := ⟨d - 1, by omega⟩
  obtain ⟨A1, f1, e1⟩ := c_worthOf (p := if p - 1 < 1 then 1 else p - 1) (b := b) (W := W) (show 6 ≤ d by omega) hX h0 h1 hb
  obtain ⟨A2, f2, e2⟩ := c_worthOf (p := if 9 < p + 1 then 9 else p + 1) (b := b) (W := W) (show 6 ≤ d by omega) (hX.t fi.refl (f1.wd rfl)) h0 h1 hb
  obtain ⟨A3, f3, e3⟩ := c_worthOf (p := p) (b := b) (W := W) (show 6 ≤ d by omega) (hX.t fi.refl ((f1.tr f2).wd rfl)) h0 h1 hb
  refine ⟨A3, (f1.tr f2).tr f3, ?_⟩
  have tb := thm_b hq.1 hq.2 (worth_b (F := F) (s := s) (w := w) (p := p) (b := b) hX.1.1) (worth_b (F := F) (s := s) (w := w) (p := if p - 1 < 1 then 1 else p - 1) (b := b) hX.1.1) (worth_b (F := F) (s := s) (w := w) (p := if 9 < p + 1 then 9 else p + 1) (b := b) hX.1.1)
  rw [cl_X0_weighThumb]
  simp (implicitDefEqProofs := false) (disch := omega) only [↓rI_s, ↓rV_s, ↓rI_e, ↓rV_e, zc_eq, zc_ne, zc_lt, zc_ge, zc_gt, zc_le, zlt_t, zlt_f, zle_t, zle_f, zeq_t, zeq_f, lz, zadd, zsub, zmul, zneg, zb_e0, zb_e1, boo0, boo1, ua_s, ua_n, ua_ua, up_s, u2_s, u2_f, u2_c, u2_u2, Int.natCast_add, Int.zero_add, Int.add_zero, ↓reduceIte, ne_eq, not_true_eq_false, not_false_eq_true, Int.natCast_one, ↓k_X0_weighThumb_0, ↓mc_45, zif, e1, e2, e3, ↓zp_45_11, ↓zp_45_12]
  exact c_halve 5 _ 32 tb.1 (by omega) (by decide) (by decide) (by decide)
theorem C_odds {w p q k : Int} (hd : 8 ≤ d) (hX : cX R F s I A) (h0 : wI w) (h1 : wI p) (h2 : wI q) (h3 : wI k) : cOut I A W (q_call q_MT d 131 [.ref 2, .int (zI w), .int (zI p), .int (zI q), .int (zI k)] (zM I A W)) (if 0 ≤ w ∧ w < rW R then (if (1 ≤ p ∧ p ≤ 9) ∧ (0 ≤ q ∧ q ≤ 16) ∧ (0 ≤ k ∧ k ≤ 1) then 0 else 2) else 1) (vThumb R F s w p q k 0) := by
  obtain ⟨d, rfl⟩ : ∃ e, d = e + 1 := ⟨d - 1, by omega⟩
  have hR := hX.1
  obtain ⟨e, rfl⟩ : ∃ e, d = e + 1 := ⟨d - 1, by omega⟩
  rw [cl_X10_odds, k_X10_odds_0]
  by_cases c1 : 0 ≤ w ∧ w < rW R
  · have n1 := s_needWink (I := I) (A := A) (W := W) (d := e) (n := w) (by omega) hR ⟨c1.1, c1.2, h0⟩
    by_cases c2 : 1 ≤ p ∧ p ≤ 9
    · have n2 := s_needPress (I := I) (A := A) (W := W) (d := e) (n := p) (by omega) c2
      by_cases c3 : 0 ≤ q ∧ q ≤ 16
      · have n3 := s_needWithin (I := I) (A := A) (W := W) (d := e) (n := q) (a := 0) (b := 16) (by omega) ⟨c3.1, c3.2, h2, by omega, by omega⟩
        by_cases c4 : 0 ≤ k ∧ k ≤ 1
        · have n4 := s_needWhat (I := I) (A := A) (W := W) (d := e) (n := k) (m := 1) (by omega) ⟨c4.1, c4.2, by omega⟩
          rw [if_pos c1, if_pos (show (1 ≤ p ∧ p ≤ 9) ∧ (0 ≤ q ∧ q ≤ 16) ∧ (0 ≤ k ∧ k ≤ 1) from ⟨c2, c3, c4⟩)]
          obtain ⟨A', f, e5⟩ := c_weighThumb (b := 0) (W := W) (show 7 ≤ e + 1 by omega) hX c1.1 c1.2 c2 c3 (by omega)
          refine cOut.ok (I1 := u2 (u2 I 45 11 (hv 5 (thm R F s w p q 0) 32).1) 45 12 (hv 5 (thm R F s w p q 0) 32).2) ((fi.refl.f rfl).f rfl) (f.wd rfl) ?_
          have : k = 0 ∨ k = 1 := by omega
          rcases this with rfl | rfl
          · simp (implicitDefEqProofs := false) (disch := omega) only [↓rI_s, ↓rV_s, ↓rI_e, ↓rV_e, zc_eq, zc_ne, zc_lt, zc_ge, zc_gt, zc_le, zlt_t, zlt_f, zle_t, zle_f, zeq_t, zeq_f, lz, zadd, zsub, zmul, zneg, zb_e0, zb_e1, boo0, boo1, ua_s, ua_n, ua_ua, up_s, u2_s, u2_f, u2_c, u2_u2, Int.natCast_add, Int.zero_add, Int.add_zero, ↓reduceIte, ne_eq, not_true_eq_false, not_false_eq_true, Int.natCast_one, ↓mc_2, cl_X10_needThumb, ↓k_X10_needThumb_0, n1, n2, n3, n4, ↓zg_2_8, ↓mc_45, e5, ↓k_X10_odds_42, ↓zg_45_11, ↓zg_45_12]; rfl
          · simp (implicitDefEqProofs := false) (disch := omega) only [↓rI_s, ↓rV_s, ↓rI_e, ↓rV_e, zc_eq, zc_ne, zc_lt, zc_ge, zc_gt, zc_le, zlt_t, zlt_f, zle_t, zle_f, zeq_t, zeq_f, lz, zadd, zsub, zmul, zneg, zb_e0, zb_e1, boo0, boo1, ua_s, ua_n, ua_ua, up_s, u2_s, u2_f, u2_c, u2_u2, Int.natCast_add, Int.zero_add, Int.add_zero, ↓reduceIte, ne_eq, not_true_eq_false, not_false_eq_true, Int.natCast_one, ↓mc_2, cl_X10_needThumb, ↓k_X10_needThumb_0, n1, n2, n3, n4, ↓zg_2_8, ↓mc_45, e5, ↓k_X10_odds_42, ↓zg_45_11, ↓zg_45_12]; rfl
        · have n4 := s_needWhat_f (I := I) (A := A) (W := W) (d := e) (n := k) (m := 1) (by omega) ⟨c4, h3, by omega⟩
          rw [if_pos c1, if_neg (show ¬ ((1 ≤ p ∧ p ≤ 9) ∧ (0 ≤ q ∧ q ≤ 16) ∧ (0 ≤ k ∧ k ≤ 1)) by omega)]
          exact cOut.il (by simp (implicitDefEqProofs := false) (disch := omega) only [↓rI_s, ↓rV_s, ↓rI_e, ↓rV_e, zc_eq, zc_ne, zc_lt, zc_ge, zc_gt, zc_le, zlt_t, zlt_f, zle_t, zle_f, zeq_t, zeq_f, lz, zadd, zsub, zmul, zneg, zb_e0, zb_e1, boo0, boo1, ua_s, ua_n, ua_ua, up_s, u2_s, u2_f, u2_c, u2_u2, Int.natCast_add, Int.zero_add, Int.add_zero, ↓reduceIte, ne_eq, not_true_eq_false, not_false_eq_true, Int.natCast_one, ↓mc_2, cl_X10_needThumb, ↓k_X10_needThumb_0, n1, n2, n3, n4, t0_1])
      · have n3 := s_needWithin_f (I := I) (A := A) (W := W) (d := e) (n := q) (a := 0) (b := 16) (by omega) ⟨c3, h2, by omega, by omega⟩
        rw [if_pos c1, if_neg (show ¬ ((1 ≤ p ∧ p ≤ 9) ∧ (0 ≤ q ∧ q ≤ 16) ∧ (0 ≤ k ∧ k ≤ 1)) by omega)]
        exact cOut.il (by simp (implicitDefEqProofs := false) (disch := omega) only [↓rI_s, ↓rV_s, ↓rI_e, ↓rV_e, zc_eq, zc_ne, zc_lt, zc_ge, zc_gt, zc_le, zlt_t, zlt_f, zle_t, zle_f, zeq_t, zeq_f, lz, zadd, zsub, zmul, zneg, zb_e0, zb_e1, boo0, boo1, ua_s, ua_n, ua_ua, up_s, u2_s, u2_f, u2_c, u2_u2, Int.natCast_add, Int.zero_add, Int.add_zero, ↓reduceIte, ne_eq, not_true_eq_false, not_false_eq_true, Int.natCast_one, ↓mc_2, cl_X10_needThumb, ↓k_X10_needThumb_0, n1, n2, n3, t0_1])
    · have n2 := s_needPress_f (I := I) (A := A) (W := W) (d := e) (n := p) (by omega) ⟨c2, h1⟩
      rw [if_pos c1, if_neg (show ¬ ((1 ≤ p ∧ p ≤ 9) ∧ (0 ≤ q ∧ q ≤ 16) ∧ (0 ≤ k ∧ k ≤ 1)) by omega)]
      exact cOut.il (by simp (implicitDefEqProofs := false) (disch := omega) only [↓rI_s, ↓rV_s, ↓rI_e, ↓rV_e, zc_eq, zc_ne, zc_lt, zc_ge, zc_gt, zc_le, zlt_t, zlt_f, zle_t, zle_f, zeq_t, zeq_f, lz, zadd, zsub, zmul, zneg, zb_e0, zb_e1, boo0, boo1, ua_s, ua_n, ua_ua, up_s, u2_s, u2_f, u2_c, u2_u2, Int.natCast_add, Int.zero_add, Int.add_zero, ↓reduceIte, ne_eq, not_true_eq_false, not_false_eq_true, Int.natCast_one, ↓mc_2, cl_X10_needThumb, ↓k_X10_needThumb_0, n1, n2, t0_1])
  · have n1 := s_needWink_f (I := I) (A := A) (W := W) (d := e) (n := w) (by omega) hR ⟨c1, h0⟩
    rw [if_neg c1]
    exact cOut.ns (by simp (implicitDefEqProofs := false) (disch := omega) only [↓rI_s, ↓rV_s, ↓rI_e, ↓rV_e, zc_eq, zc_ne, zc_lt, zc_ge, zc_gt, zc_le, zlt_t, zlt_f, zle_t, zle_f, zeq_t, zeq_f, lz, zadd, zsub, zmul, zneg, zb_e0, zb_e1, boo0, boo1, ua_s, ua_n, ua_ua, up_s, u2_s, u2_f, u2_c, u2_u2, Int.natCast_add, Int.zero_add, Int.add_zero, ↓reduceIte, ne_eq, not_true_eq_false, not_false_eq_true, Int.natCast_one, ↓mc_2, cl_X10_needThumb, ↓k_X10_needThumb_0, n1, t0_0])
theorem C_mean {w p q k : Int} (hd : 8 ≤ d) (hX : cX R F s I A) (h0 : wI w) (h1 : wI p) (h2 : wI q) (h3 : wI k) : cOut I A W (q_call q_MT d 132 [.ref 2, .int (zI w), .int (zI p), .int (zI q), .int (zI k)] (zM I A W)) (if 0 ≤ w ∧ w < rW R then (if (1 ≤ p ∧ p ≤ 9) ∧ (0 ≤ q ∧ q ≤ 16) ∧ (0 ≤ k ∧ k ≤ 1) then 0 else 2) else 1) (vThumb R F s w p q k 1) := by
  obtain ⟨d, rfl⟩ : ∃ e, d = e + 1 := ⟨d - 1, by omega⟩
  have hR := hX.1
  obtain ⟨e, rfl⟩ : ∃ e, d = e + 1 := ⟨d - 1, by omega⟩
  rw [cl_X10_mean, k_X10_mean_0]
  by_cases c1 : 0 ≤ w ∧ w < rW R
  · have n1 := s_needWink (I := I) (A := A) (W := W) (d := e) (n := w) (by omega) hR ⟨c1.1, c1.2, h0⟩
    by_cases c2 : 1 ≤ p ∧ p ≤ 9
    · have n2 := s_needPress (I := I) (A := A) (W := W) (d := e) (n := p) (by omega) c2
      by_cases c3 : 0 ≤ q ∧ q ≤ 16
      · have n3 := s_needWithin (I := I) (A := A) (W := W) (d := e) (n := q) (a := 0) (b := 16) (by omega) ⟨c3.1, c3.2, h2, by omega, by omega⟩
        by_cases c4 : 0 ≤ k ∧ k ≤ 1
        · have n4 := s_needWhat (I := I) (A := A) (W := W) (d := e) (n := k) (m := 1) (by omega) ⟨c4.1, c4.2, by omega⟩
          rw [if_pos c1, if_pos (show (1 ≤ p ∧ p ≤ 9) ∧ (0 ≤ q ∧ q ≤ 16) ∧ (0 ≤ k ∧ k ≤ 1) from ⟨c2, c3, c4⟩)]
          obtain ⟨A', f, e5⟩ := c_weighThumb (b := 1) (W := W) (show 7 ≤ e + 1 by omega) hX c1.1 c1.2 c2 c3 (by omega)
          refine cOut.ok (I1 := u2 (u2 I 45 11 (hv 5 (thm R F s w p q 1) 32).1) 45 12 (hv 5 (thm R F s w p q 1) 32).2) ((fi.refl.f rfl).f rfl) (f.wd rfl) ?_
          have : k = 0 ∨ k = 1 := by omega
          rcases this with rfl | rfl
          · simp (implicitDefEqProofs := false) (disch := omega) only [↓rI_s, ↓rV_s, ↓rI_e, ↓rV_e, zc_eq, zc_ne, zc_lt, zc_ge, zc_gt, zc_le, zlt_t, zlt_f, zle_t, zle_f, zeq_t, zeq_f, lz, zadd, zsub, zmul, zneg, zb_e0, zb_e1, boo0, boo1, ua_s, ua_n, ua_ua, up_s, u2_s, u2_f, u2_c, u2_u2, Int.natCast_add, Int.zero_add, Int.add_zero, ↓reduceIte, ne_eq, not_true_eq_false, not_false_eq_true, Int.natCast_one, ↓mc_2, cl_X10_needThumb, ↓k_X10_needThumb_0, n1, n2, n3, n4, ↓zg_2_8, ↓mc_45, e5, ↓k_X10_mean_42, ↓zg_45_11, ↓zg_45_12]; rfl
          · simp (implicitDefEqProofs := false) (disch := omega) only [↓rI_s, ↓rV_s, ↓rI_e, ↓rV_e, zc_eq, zc_ne, zc_lt, zc_ge, zc_gt, zc_le, zlt_t, zlt_f, zle_t, zle_f, zeq_t, zeq_f, lz, zadd, zsub, zmul, zneg, zb_e0, zb_e1, boo0, boo1, ua_s, ua_n, ua_ua, up_s, u2_s, u2_f, u2_c, u2_u2, Int.natCast_add, Int.zero_add, Int.add_zero, ↓reduceIte, ne_eq, not_true_eq_false, not_false_eq_true, Int.natCast_one, ↓mc_2, cl_X10_needThumb, ↓k_X10_needThumb_0, n1, n2, n3, n4, ↓zg_2_8, ↓mc_45, e5, ↓k_X10_mean_42, ↓zg_45_11, ↓zg_45_12]; rfl
        · have n4 := s_needWhat_f (I := I) (A := A) (W := W) (d := e) (n := k) (m := 1) (by omega) ⟨c4, h3, by omega⟩
          rw [if_pos c1, if_neg (show ¬ ((1 ≤ p ∧ p ≤ 9) ∧ (0 ≤ q ∧ q ≤ 16) ∧ (0 ≤ k ∧ k ≤ 1)) by omega)]
          exact cOut.il (by simp (implicitDefEqProofs := false) (disch := omega) only [↓rI_s, ↓rV_s, ↓rI_e, ↓rV_e, zc_eq, zc_ne, zc_lt, zc_ge, zc_gt, zc_le, zlt_t, zlt_f, zle_t, zle_f, zeq_t, zeq_f, lz, zadd, zsub, zmul, zneg, zb_e0, zb_e1, boo0, boo1, ua_s, ua_n, ua_ua, up_s, u2_s, u2_f, u2_c, u2_u2, Int.natCast_add, Int.zero_add, Int.add_zero, ↓reduceIte, ne_eq, not_true_eq_false, not_false_eq_true, Int.natCast_one, ↓mc_2, cl_X10_needThumb, ↓k_X10_needThumb_0, n1, n2, n3, n4, t0_1])
      · have n3 := s_needWithin_f (I := I) (A := A) (W := W) (d := e) (n := q) (a := 0) (b := 16) (by omega) ⟨c3, h2, by omega, by omega⟩
        rw [if_pos c1, if_neg (show ¬ ((1 ≤ p ∧ p ≤ 9) ∧ (0 ≤ q ∧ q ≤ 16) ∧ (0 ≤ k ∧ k ≤ 1)) by omega)]
        exact cOut.il (by simp (implicitDefEqProofs := false) (disch := omega) only [↓rI_s, ↓rV_s, ↓rI_e, ↓rV_e, zc_eq, zc_ne, zc_lt, zc_ge, zc_gt, zc_le, zlt_t, zlt_f, zle_t, zle_f, zeq_t, zeq_f, lz, zadd, zsub, zmul, zneg, zb_e0, zb_e1, boo0, boo1, ua_s, ua_n, ua_ua, up_s, u2_s, u2_f, u2_c, u2_u2, Int.natCast_add, Int.zero_add, Int.add_zero, ↓reduceIte, ne_eq, not_true_eq_false, not_false_eq_true, Int.natCast_one, ↓mc_2, cl_X10_needThumb, ↓k_X10_needThumb_0, n1, n2, n3, t0_1])
    · have n2 := s_needPress_f (I := I) (A := A) (W := W) (d := e) (n := p) (by omega) ⟨c2, h1⟩
      rw [if_pos c1, if_neg (show ¬ ((1 ≤ p ∧ p ≤ 9) ∧ (0 ≤ q ∧ q ≤ 16) ∧ (0 ≤ k ∧ k ≤ 1)) by omega)]
      exact cOut.il (by simp (implicitDefEqProofs := false) (disch := omega) only [↓rI_s, ↓rV_s, ↓rI_e, ↓rV_e, zc_eq, zc_ne, zc_lt, zc_ge, zc_gt, zc_le, zlt_t, zlt_f, zle_t, zle_f, zeq_t, zeq_f, lz, zadd, zsub, zmul, zneg, zb_e0, zb_e1, boo0, boo1, ua_s, ua_n, ua_ua, up_s, u2_s, u2_f, u2_c, u2_u2, Int.natCast_add, Int.zero_add, Int.add_zero, ↓reduceIte, ne_eq, not_true_eq_false, not_false_eq_true, Int.natCast_one, ↓mc_2, cl_X10_needThumb, ↓k_X10_needThumb_0, n1, n2, t0_1])
  · have n1 := s_needWink_f (I := I) (A := A) (W := W) (d := e) (n := w) (by omega) hR ⟨c1, h0⟩
    rw [if_neg c1]
    exact cOut.ns (by simp (implicitDefEqProofs := false) (disch := omega) only [↓rI_s, ↓rV_s, ↓rI_e, ↓rV_e, zc_eq, zc_ne, zc_lt, zc_ge, zc_gt, zc_le, zlt_t, zlt_f, zle_t, zle_f, zeq_t, zeq_f, lz, zadd, zsub, zmul, zneg, zb_e0, zb_e1, boo0, boo1, ua_s, ua_n, ua_ua, up_s, u2_s, u2_f, u2_c, u2_u2, Int.natCast_add, Int.zero_add, Int.add_zero, ↓reduceIte, ne_eq, not_true_eq_false, not_false_eq_true, Int.natCast_one, ↓mc_2, cl_X10_needThumb, ↓k_X10_needThumb_0, n1, t0_0])
theorem m_valueBy {w p b : Int} (hd : 10 ≤ d) (hY : mY R F s I A) (h0 : 0 ≤ w) (h1 : w < rW R) (hb : b = 0 ∨ b = 1) (hp : 0 ≤ p ∧ p ≤ 10) : ∃ A', fr [72, 73] A A' ∧ q_call q_MT d 245 [.ref 59, .int (zI w), .int (zI p), .int (zI b)] (zM I A W) = some (.inl (some (.int (zI (worth R F s w (if p < 1 then 1 else if 9 < p then 9 else p) b)))), zM I A' W) := by
  obtain ⟨d, rfl⟩ : ∃ e, d = e + 1 := ⟨d - 1, by omega⟩
  have hc4 := hY.1.1.2.2.1
  have key : ∀ p' : Int, 1 ≤ p' → p' ≤ 9 → ∀ l2 l4 l5 : Value, ∃ A', fr [72, 73] A A' ∧ q_run qm_X11_valueBy (q_call q_MT d) 21 [.ref 59, .int (zI w), l2, .int (zI b), l4, l5] [.int (zI p')] (zM I A W) = some (.inl (some (.int (zI (worth R F s w p' b)))), zM I A' W) := by
    intro p' p0 p1 l2 l4 l5
    obtain ⟨A', f, e⟩ := m_cupOf (p := p') (h := 0) (W := W) (show 9 ≤ d by omega) hY h0 h1 (.inl rfl)
    have cb := chit_b (R := R) (F := F) (s := s) (w := w) (p := p') (h := 0)
    refine ⟨A', f, ?_⟩
    rw [k_X11_valueBy_21]
    by_cases q : chit R F s w p' 0 = -1
    · have ep : paid R F s w p' 0 = 0 := if_pos q
      have ew : worth R F s w p' b = 0 := by
        unfold worth; rw [ep]; split
        · rw [if_neg (by decide)]
        · rfl
      rw [ew]
      rw [q] at e
      simp (implicitDefEqProofs := false) (disch := omega) only [↓rI_s, ↓rV_s, ↓rI_e, ↓rV_e, zc_eq, zc_ne, zc_lt, zc_ge, zc_gt, zc_le, zlt_t, zlt_f, zle_t, zle_f, zeq_t, zeq_f, lz, zadd, zsub, zmul, zneg, zb_e0, zb_e1, boo0, boo1, ua_s, ua_n, ua_ua, up_s, u2_s, u2_f, u2_c, u2_u2, Int.natCast_add, Int.zero_add, Int.add_zero, ↓reduceIte, ne_eq, not_true_eq_false, not_false_eq_true, Int.natCast_one, ↓mc_59, e, ↓k_X11_valueBy_62]
    · have ep : paid R F s w p' 0 = rP R (chit R F s w p' 0) := if_neg q
      have erp := (hY.1.fr f rfl).2.2.2.2.2.2.2.2.2 _ (show 0 ≤ chit R F s w p' 0 by omega) cb.2
      have brp := hY.1.1.2.2.2.2.2.2.2.2.2.2 _ (show 0 ≤ chit R F s w p' 0 by omega) cb.2
      rcases hb with rfl | rfl
      · have ew : worth R F s w p' 0 = 1 := by
          unfold worth; rw [ep, if_pos rfl]; split <;> omega
        rw [ew]
        simp (implicitDefEqProofs := false) (disch := omega) only [↓rI_s, ↓rV_s, ↓rI_e, ↓rV_e, zc_eq, zc_ne, zc_lt, zc_ge, zc_gt, zc_le, zlt_t, zlt_f, zle_t, zle_f, zeq_t, zeq_f, lz, zadd, zsub, zmul, zneg, zb_e0, zb_e1, boo0, boo1, ua_s, ua_n, ua_ua, up_s, u2_s, u2_f, u2_c, u2_u2, Int.natCast_add, Int.zero_add, Int.add_zero, ↓reduceIte, ne_eq, not_true_eq_false, not_false_eq_true, Int.natCast_one, ↓mc_59, e, ↓k_X11_valueBy_62]
      · have ew : worth R F s w p' 1 = rP R (chit R F s w p' 0) := by
          unfold worth; rw [ep, if_neg (by decide)]
        rw [ew]
        simp (implicitDefEqProofs := false) (disch := omega) only [↓rI_s, ↓rV_s, ↓rI_e, ↓rV_e, zc_eq, zc_ne, zc_lt, zc_ge, zc_gt, zc_le, zlt_t, zlt_f, zle_t, zle_f, zeq_t, zeq_f, lz, zadd, zsub, zmul, zneg, zb_e0, zb_e1, boo0, boo1, ua_s, ua_n, ua_ua, up_s, u2_s, u2_f, u2_c, u2_u2, Int.natCast_add, Int.zero_add, Int.add_zero, ↓reduceIte, ne_eq, not_true_eq_false, not_false_eq_true, Int.natCast_one, ↓mc_59, e, ↓k_X11_valueBy_62, ↓zg_59_15, zl_67, erp]
  rw [cl_X11_valueBy, k_X11_valueBy_0]
  by_cases q1 : p < 1
  · rw [if_pos q1]
    obtain ⟨A', f, e⟩ := key 1 (by decide) (by decide) (.int (zI p)) q_junk q_junk
    refine ⟨A', f, ?_⟩
    simp (implicitDefEqProofs := false) (disch := omega) only [↓rI_s, ↓rV_s, ↓rI_e, ↓rV_e, zc_eq, zc_ne, zc_lt, zc_ge, zc_gt, zc_le, zlt_t, zlt_f, zle_t, zle_f, zeq_t, zeq_f, lz, zadd, zsub, zmul, zneg, zb_e0, zb_e1, boo0, boo1, ua_s, ua_n, ua_ua, up_s, u2_s, u2_f, u2_c, u2_u2, Int.natCast_add, Int.zero_add, Int.add_zero, ↓reduceIte, ne_eq, not_true_eq_false, not_false_eq_true, Int.natCast_one]
    exact e
  · by_cases q2 : 9 < p
    · rw [if_neg q1, if_pos q2]
      obtain ⟨A', f, e⟩ := key 9 (by decide) (by decide) (.int (zI p)) q_junk q_junk
      refine ⟨A', f, ?_⟩
      simp (implicitDefEqProofs := false) (disch := omega) only [↓rI_s, ↓rV_s, ↓rI_e, ↓rV_e, zc_eq, zc_ne, zc_lt, zc_ge, zc_gt, zc_le, zlt_t, zlt_f, zle_t, zle_f, zeq_t, zeq_f, lz, zadd, zsub, zmul, zneg, zb_e0, zb_e1, boo0, boo1, ua_s, ua_n, ua_ua, up_s, u2_s, u2_f, u2_c, u2_u2, Int.natCast_add, Int.zero_add, Int.add_zero, ↓reduceIte, ne_eq, not_true_eq_false, not_false_eq_true, Int.natCast_one]
      exact e
    · rw [if_neg q1, if_neg q2]
      obtain ⟨A', f, e⟩ := key p (by omega) (by omega) (.int (zI p)) q_junk q_junk
      refine ⟨A', f, ?_⟩
      simp (implicitDefEqProofs := false) (disch := omega) only [↓rI_s, ↓rV_s, ↓rI_e, ↓rV_e, zc_eq, zc_ne, zc_lt, zc_ge, zc_gt, zc_le, zlt_t, zlt_f, zle_t, zle_f, zeq_t, zeq_f, lz, zadd, zsub, zmul, zneg, zb_e0, zb_e1, boo0, boo1, ua_s, ua_n, ua_ua, up_s, u2_s, u2_f, u2_c, u2_u2, Int.natCast_add, Int.zero_add, Int.add_zero, ↓reduceIte, ne_eq, not_true_eq_false, not_false_eq_true, Int.natCast_one]
      exact e
theorem m_thumbOf {w p q b : Int} (hd : 11 ≤ d) (hY : mY R F s I A) (h0 : 0 ≤ w) (h1 : w < rW R) (hp : 1 ≤ p ∧ p ≤ 9) (hb : b = 0 ∨ b = 1) : ∃ A', fr [72, 73] A A' ∧ q_call q_MT d 246 [.ref 59, .int (zI w), .int (zI p), .int (zI q), .int (zI b)] (zM I A W) = some (.inl (some (.int (zI (thm R F s w p q b)))), zM I A' W) := by
  obtain ⟨d, rfl⟩ : ∃ e, d = e + 1 := ⟨d - 1, by omega⟩
  obtain ⟨A1, f1, e1⟩ := m_valueBy (p := p) (b := b) (W := W) (show 10 ≤ d by omega) hY h0 h1 hb (by omega)
  obtain ⟨A2, f2, e2⟩ := m_valueBy (p := p - 1) (b := b) (W := W) (show 10 ≤ d by omega) (hY.t fi.refl (f1.wd rfl)) h0 h1 hb (by omega)
  obtain ⟨A3, f3, e3⟩ := m_valueBy (p := p + 1) (b := b) (W := W) (show 10 ≤ d by omega) (hY.t fi.refl ((f1.tr f2).wd rfl)) h0 h1 hb (by omega)
  have x1 : (if p < 1 then 1 else if 9 < p then 9 else p) = p := by split <;> (try split) <;> omega
  have x2 : (if p - 1 < 1 then 1 else if 9 < p - 1 then 9 else p - 1) = if p - 1 < 1 then 1 else p - 1 := by split <;> (try split) <;> omega
  have x3 : (if p + 1 < 1 then 1 else if 9 < p + 1 then 9 else p + 1) = if 9 < p + 1 then 9 else p + 1 := by split <;> (try split) <;> omega
  rw [x1] at e1
  rw [x2] at e2
  rw [x3] at e3
  refine ⟨A3, (f1.tr f2).tr f3, ?_⟩
  rw [cl_X11_thumbOf]
  simp (implicitDefEqProofs := false) (disch := omega) only [↓rI_s, ↓rV_s, ↓rI_e, ↓rV_e, zc_eq, zc_ne, zc_lt, zc_ge, zc_gt, zc_le, zlt_t, zlt_f, zle_t, zle_f, zeq_t, zeq_f, lz, zadd, zsub, zmul, zneg, zb_e0, zb_e1, boo0, boo1, ua_s, ua_n, ua_ua, up_s, u2_s, u2_f, u2_c, u2_u2, Int.natCast_add, Int.zero_add, Int.add_zero, ↓reduceIte, ne_eq, not_true_eq_false, not_false_eq_true, Int.natCast_one, ↓k_X11_thumbOf_0, ↓mc_59, e1, e2, e3]
  rfl
theorem m_gc {h : qH} {u k : Int} (hu : 0 ≤ u ∧ u ≤ 10000) (hk : k = 0 ∨ k = 1) : ∀ (f : Nat) (x y : Int) (l5 : Value), 0 ≤ x → x ≤ 10000 → 0 ≤ y → y ≤ f → f ≤ 100 → 0 < gc f x y → gc f x y ≤ 10000 → q_run qm_X11_least (q_call q_MT d) 5 [.int (zI u), .int (zI 32), .int (zI k), .int (zI x), .int (zI y), l5] [] h = some (.inl (some (.int (zI (if k = 0 then u / gc f x y else 32 / gc f x y)))), h)
  | 0, x, y, l5, x0, x1, y0, y1, _, g0, g1 => by
    have y2 : y = 0 := by omega
    subst y2
    have eg : gc 0 x 0 = x := rfl
    rw [eg] at g0 g1 ⊢
    rw [k_X11_least_5]
    rcases hk with rfl | rfl
    · simp (implicitDefEqProofs := false) (disch := omega) only [↓rI_s, ↓rV_s, ↓rI_e, ↓rV_e, zc_eq, zc_ne, zc_lt, zc_ge, zc_gt, zc_le, zlt_t, zlt_f, zle_t, zle_f, zeq_t, zeq_f, lz, zadd, zsub, zmul, zneg, zb_e0, zb_e1, boo0, boo1, ua_s, ua_n, ua_ua, up_s, u2_s, u2_f, u2_c, u2_u2, Int.natCast_add, Int.zero_add, Int.add_zero, ↓reduceIte, ne_eq, not_true_eq_false, not_false_eq_true, Int.natCast_one, ↓k_X11_least_35, zdiv]
    · simp (implicitDefEqProofs := false) (disch := omega) only [↓rI_s, ↓rV_s, ↓rI_e, ↓rV_e, zc_eq, zc_ne, zc_lt, zc_ge, zc_gt, zc_le, zlt_t, zlt_f, zle_t, zle_f, zeq_t, zeq_f, lz, zadd, zsub, zmul, zneg, zb_e0, zb_e1, boo0, boo1, ua_s, ua_n, ua_ua, up_s, u2_s, u2_f, u2_c, u2_u2, Int.natCast_add, Int.zero_add, Int.add_zero, ↓reduceIte, ne_eq, not_true_eq_false, not_false_eq_true, Int.natCast_one, ↓k_X11_least_35, zdiv]; rfl
  | f + 1, x, y, l5, x0, x1, y0, y1, hf, g0, g1 => by
    by_cases q : y = 0
    · subst q
      have eg : gc (f + 1) x 0 = x := if_pos rfl
      rw [eg] at g0 g1 ⊢
      rw [k_X11_least_5]
      rcases hk with rfl | rfl
      · simp (implicitDefEqProofs := false) (disch := omega) only [↓rI_s, ↓rV_s, ↓rI_e, ↓rV_e, zc_eq, zc_ne, zc_lt, zc_ge, zc_gt, zc_le, zlt_t, zlt_f, zle_t, zle_f, zeq_t, zeq_f, lz, zadd, zsub, zmul, zneg, zb_e0, zb_e1, boo0, boo1, ua_s, ua_n, ua_ua, up_s, u2_s, u2_f, u2_c, u2_u2, Int.natCast_add, Int.zero_add, Int.add_zero, ↓reduceIte, ne_eq, not_true_eq_false, not_false_eq_true, Int.natCast_one, ↓k_X11_least_35, zdiv]
      · simp (implicitDefEqProofs := false) (disch := omega) only [↓rI_s, ↓rV_s, ↓rI_e, ↓rV_e, zc_eq, zc_ne, zc_lt, zc_ge, zc_gt, zc_le, zlt_t, zlt_f, zle_t, zle_f, zeq_t, zeq_f, lz, zadd, zsub, zmul, zneg, zb_e0, zb_e1, boo0, boo1, ua_s, ua_n, ua_ua, up_s, u2_s, u2_f, u2_c, u2_u2, Int.natCast_add, Int.zero_add, Int.add_zero, ↓reduceIte, ne_eq, not_true_eq_false, not_false_eq_true, Int.natCast_one, ↓k_X11_least_35, zdiv]; rfl
    · have eg : gc (f + 1) x y = gc f y (x - x / y * y) := if_neg q
      have em := emd x0 (show 0 < y by omega)
      rw [eg] at g0 g1 ⊢
      rw [k_X11_least_5]
      simp (implicitDefEqProofs := false) (disch := omega) only [↓rI_s, ↓rV_s, ↓rI_e, ↓rV_e, zc_eq, zc_ne, zc_lt, zc_ge, zc_gt, zc_le, zlt_t, zlt_f, zle_t, zle_f, zeq_t, zeq_f, lz, zadd, zsub, zmul, zneg, zb_e0, zb_e1, boo0, boo1, ua_s, ua_n, ua_ua, up_s, u2_s, u2_f, u2_c, u2_u2, Int.natCast_add, Int.zero_add, Int.add_zero, ↓reduceIte, ne_eq, not_true_eq_false, not_false_eq_true, Int.natCast_one, zdiv]
      exact m_gc hu hk f y (x - x / y * y) _ y0 (by omega) em.1 (by omega) (by omega) g0 g1
theorem gc_b (f : Nat) : ∀ (x y : Int), 0 ≤ x → x ≤ 10000 → 0 ≤ y → y ≤ 10000 → gc f x y ≤ 10000 := by
  induction f with
  | zero => intro x y _ h _ _; exact h
  | succ f ih =>
    intro x y x0 x1 y0 y1
    unfold gc
    split
    · exact x1
    · have em := emd x0 (show 0 < y by omega)
      exact ih _ _ y0 y1 em.1 (by omega)
theorem m_least {h : qH} {u k : Int} (hd : 1 ≤ d) (hu : 0 ≤ u ∧ u ≤ 6400) (hk : k = 0 ∨ k = 1) : q_call q_MT d 247 [.int (zI u), .int (zI 32), .int (zI k)] h = some (.inl (some (.int (zI (if k = 0 then (hv 5 u 32).1 else (hv 5 u 32).2)))), h) := by
  obtain ⟨d, rfl⟩ : ∃ e, d = e + 1 := ⟨d - 1, by omega⟩
  obtain ⟨m, rfl⟩ := Int.eq_ofNat_of_zero_le hu.1
  have hg := hv_gc m (by omega)
  rw [cl_X11_least, k_X11_least_0]
  have e := m_gc (d := d) (h := h) (u := m) (k := k) (by omega) hk 32 m 32 q_junk (by omega) (by omega) (by decide) (by decide) (by decide) hg.2 (gc_b 32 _ _ (by omega) (by omega) (by decide) (by decide))
  rw [hg.1]
  exact e
theorem M_thumb {w p q k b : Int} (hd : 13 ≤ d) (hX : mX R F s I A) (h0 : wI w) (h1 : wI p) (h2 : wI q) (h3 : wI k) (hb : b = 0 ∨ b = 1) : mOut I A W (q_call q_MT d 248 [.ref 59, .int (zI w), .int (zI p), .int (zI q), .int (zI k), .int (zI b)] (zM I A W)) (if 0 ≤ w ∧ w < rW R then (if (1 ≤ p ∧ p ≤ 9) ∧ (0 ≤ q ∧ q ≤ 16) ∧ (0 ≤ k ∧ k ≤ 1) then 0 else 2) else 1) (vThumb R F s w p q k b) 2 := by
  obtain ⟨d, rfl⟩ : ∃ e, d = e + 1 := ⟨d - 1, by omega⟩
  have hY := hX.y
  have hR := hX.1
  have hs := hX.2.1
  rw [cl_X11_thumb, k_X11_thumb_0]
  simp only [lz]
  by_cases c1 : 0 ≤ w ∧ w < rW R
  · by_cases c2 : 1 ≤ p ∧ p ≤ 9
    · by_cases c3 : 0 ≤ q ∧ q ≤ 16
      · by_cases c4 : 0 ≤ k ∧ k ≤ 1
        · rw [if_pos c1, if_pos (show (1 ≤ p ∧ p ≤ 9) ∧ (0 ≤ q ∧ q ≤ 16) ∧ (0 ≤ k ∧ k ≤ 1) from ⟨c2, c3, c4⟩)]
          obtain ⟨A', f, e⟩ := m_thumbOf (q := q) (b := b) (W := W) (show 11 ≤ d by omega) hY c1.1 c1.2 c2 hb
          have tb := thm_b c3.1 c3.2 (worth_b (F := F) (s := s) (w := w) (p := p) (b := b) hR.1) (worth_b (F := F) (s := s) (w := w) (p := if p - 1 < 1 then 1 else p - 1) (b := b) hR.1) (worth_b (F := F) (s := s) (w := w) (p := if 9 < p + 1 then 9 else p + 1) (b := b) hR.1)
          have e2 := m_least (d := d) (h := zM (u2 I 59 0 0) A' W) (u := thm R F s w p q b) (k := k) (by omega) tb (by omega)
          refine mOut.ok (I1 := u2 I 59 0 0) (A1 := A') (fi.refl.f rfl) ((fr.refl.a rfl).tr (f.wd rfl)) u2_s ?_
          simp (implicitDefEqProofs := false) (disch := omega) only [↓rI_s, ↓rV_s, ↓rI_e, ↓rV_e, zc_eq, zc_ne, zc_lt, zc_ge, zc_gt, zc_le, zlt_t, zlt_f, zle_t, zle_f, zeq_t, zeq_f, lz, zadd, zsub, zmul, zneg, zb_e0, zb_e1, boo0, boo1, ua_s, ua_n, ua_ua, up_s, u2_s, u2_f, u2_c, u2_u2, Int.natCast_add, Int.zero_add, Int.add_zero, ↓reduceIte, ne_eq, not_true_eq_false, not_false_eq_true, Int.natCast_one, ↓k_X11_thumb_46, ↓k_X11_thumb_47, ↓k_X11_thumb_55, ↓mc_59, ↓zp_59_0, s_within, s_within_f, s_isPress, s_isPress_f, s_isWink (show 2 ≤ d by omega) hR, s_isWink_f (show 2 ≤ d by omega) hR, s_isHouse (show 2 ≤ d by omega) hR, s_isHouse_f (show 2 ≤ d by omega) hR, s_may1, s_may0, m_take (show 2 ≤ d by omega), ↓p_within, ↓p_within_f, ↓p_isPress, ↓p_isPress_f, hs, e, e2]
          rfl
        · rw [if_pos c1, if_neg (show ¬ ((1 ≤ p ∧ p ≤ 9) ∧ (0 ≤ q ∧ q ≤ 16) ∧ (0 ≤ k ∧ k ≤ 1)) by omega)]
          exact mOut.il fr.refl (by simp (implicitDefEqProofs := false) (disch := omega) only [↓rI_s, ↓rV_s, ↓rI_e, ↓rV_e, zc_eq, zc_ne, zc_lt, zc_ge, zc_gt, zc_le, zlt_t, zlt_f, zle_t, zle_f, zeq_t, zeq_f, lz, zadd, zsub, zmul, zneg, zb_e0, zb_e1, boo0, boo1, ua_s, ua_n, ua_ua, up_s, u2_s, u2_f, u2_c, u2_u2, Int.natCast_add, Int.zero_add, Int.add_zero, ↓reduceIte, ne_eq, not_true_eq_false, not_false_eq_true, Int.natCast_one, ↓k_X11_thumb_46, ↓k_X11_thumb_47, ↓k_X11_thumb_55, ↓mc_59, ↓zp_59_0, s_within, s_within_f, s_isPress, s_isPress_f, s_isWink (show 2 ≤ d by omega) hR, s_isWink_f (show 2 ≤ d by omega) hR, s_isHouse (show 2 ≤ d by omega) hR, s_isHouse_f (show 2 ≤ d by omega) hR, s_may1, s_may0, m_take (show 2 ≤ d by omega), ↓p_within, ↓p_within_f, ↓p_isPress, ↓p_isPress_f])
      · rw [if_pos c1, if_neg (show ¬ ((1 ≤ p ∧ p ≤ 9) ∧ (0 ≤ q ∧ q ≤ 16) ∧ (0 ≤ k ∧ k ≤ 1)) by omega)]
        exact mOut.il fr.refl (by simp (implicitDefEqProofs := false) (disch := omega) only [↓rI_s, ↓rV_s, ↓rI_e, ↓rV_e, zc_eq, zc_ne, zc_lt, zc_ge, zc_gt, zc_le, zlt_t, zlt_f, zle_t, zle_f, zeq_t, zeq_f, lz, zadd, zsub, zmul, zneg, zb_e0, zb_e1, boo0, boo1, ua_s, ua_n, ua_ua, up_s, u2_s, u2_f, u2_c, u2_u2, Int.natCast_add, Int.zero_add, Int.add_zero, ↓reduceIte, ne_eq, not_true_eq_false, not_false_eq_true, Int.natCast_one, ↓k_X11_thumb_46, ↓k_X11_thumb_47, ↓k_X11_thumb_55, ↓mc_59, ↓zp_59_0, s_within, s_within_f, s_isPress, s_isPress_f, s_isWink (show 2 ≤ d by omega) hR, s_isWink_f (show 2 ≤ d by omega) hR, s_isHouse (show 2 ≤ d by omega) hR, s_isHouse_f (show 2 ≤ d by omega) hR, s_may1, s_may0, m_take (show 2 ≤ d by omega), ↓p_within, ↓p_within_f, ↓p_isPress, ↓p_isPress_f])
    · rw [if_pos c1, if_neg (show ¬ ((1 ≤ p ∧ p ≤ 9) ∧ (0 ≤ q ∧ q ≤ 16) ∧ (0 ≤ k ∧ k ≤ 1)) by omega)]
      exact mOut.il fr.refl (by simp (implicitDefEqProofs := false) (disch := omega) only [↓rI_s, ↓rV_s, ↓rI_e, ↓rV_e, zc_eq, zc_ne, zc_lt, zc_ge, zc_gt, zc_le, zlt_t, zlt_f, zle_t, zle_f, zeq_t, zeq_f, lz, zadd, zsub, zmul, zneg, zb_e0, zb_e1, boo0, boo1, ua_s, ua_n, ua_ua, up_s, u2_s, u2_f, u2_c, u2_u2, Int.natCast_add, Int.zero_add, Int.add_zero, ↓reduceIte, ne_eq, not_true_eq_false, not_false_eq_true, Int.natCast_one, ↓k_X11_thumb_46, ↓k_X11_thumb_47, ↓k_X11_thumb_55, ↓mc_59, ↓zp_59_0, s_within, s_within_f, s_isPress, s_isPress_f, s_isWink (show 2 ≤ d by omega) hR, s_isWink_f (show 2 ≤ d by omega) hR, s_isHouse (show 2 ≤ d by omega) hR, s_isHouse_f (show 2 ≤ d by omega) hR, s_may1, s_may0, m_take (show 2 ≤ d by omega), ↓p_within, ↓p_within_f, ↓p_isPress, ↓p_isPress_f])
  · rw [if_neg c1]
    exact mOut.ns (by simp (implicitDefEqProofs := false) (disch := omega) only [↓rI_s, ↓rV_s, ↓rI_e, ↓rV_e, zc_eq, zc_ne, zc_lt, zc_ge, zc_gt, zc_le, zlt_t, zlt_f, zle_t, zle_f, zeq_t, zeq_f, lz, zadd, zsub, zmul, zneg, zb_e0, zb_e1, boo0, boo1, ua_s, ua_n, ua_ua, up_s, u2_s, u2_f, u2_c, u2_u2, Int.natCast_add, Int.zero_add, Int.add_zero, ↓reduceIte, ne_eq, not_true_eq_false, not_false_eq_true, Int.natCast_one, ↓k_X11_thumb_46, ↓k_X11_thumb_47, ↓k_X11_thumb_55, ↓mc_59, ↓zp_59_0, s_within, s_within_f, s_isPress, s_isPress_f, s_isWink (show 2 ≤ d by omega) hR, s_isWink_f (show 2 ≤ d by omega) hR, s_isHouse (show 2 ≤ d by omega) hR, s_isHouse_f (show 2 ≤ d by omega) hR, s_may1, s_may0, m_take (show 2 ≤ d by omega)])
theorem M_odds {w p q k : Int} (hd : 14 ≤ d) (hX : mX R F s I A) (h0 : wI w) (h1 : wI p) (h2 : wI q) (h3 : wI k) : mOut I A W (q_call q_MT d 249 [.ref 59, .int (zI w), .int (zI p), .int (zI q), .int (zI k)] (zM I A W)) (if 0 ≤ w ∧ w < rW R then (if (1 ≤ p ∧ p ≤ 9) ∧ (0 ≤ q ∧ q ≤ 16) ∧ (0 ≤ k ∧ k ≤ 1) then 0 else 2) else 1) (vThumb R F s w p q k 0) 2 := by
  obtain ⟨d, rfl⟩ : ∃ e, d = e + 1 := ⟨d - 1, by omega⟩
  have := M_thumb (b := 0) (W := W) (show 13 ≤ d by omega) hX h0 h1 h2 h3 (by omega)
  rw [cl_X11_odds, k_X11_odds_0]
  simp only [lz]
  rcases this with ⟨ho, I1, A1, l, g1, g2, g3, g4, e⟩ | ⟨ho, e⟩ | ⟨ho, A1, g1, e⟩
  · exact .inl ⟨ho, I1, A1, l, g1, g2, g3, g4, by simp (implicitDefEqProofs := false) (disch := omega) only [↓rI_s, ↓rV_s, ↓rI_e, ↓rV_e, zc_eq, zc_ne, zc_lt, zc_ge, zc_gt, zc_le, zlt_t, zlt_f, zle_t, zle_f, zeq_t, zeq_f, lz, zadd, zsub, zmul, zneg, zb_e0, zb_e1, boo0, boo1, ua_s, ua_n, ua_ua, up_s, u2_s, u2_f, u2_c, u2_u2, Int.natCast_add, Int.zero_add, Int.add_zero, ↓reduceIte, ne_eq, not_true_eq_false, not_false_eq_true, Int.natCast_one, ↓mc_59, e]⟩
  · exact .inr (.inl ⟨ho, by simp (implicitDefEqProofs := false) (disch := omega) only [↓rI_s, ↓rV_s, ↓rI_e, ↓rV_e, zc_eq, zc_ne, zc_lt, zc_ge, zc_gt, zc_le, zlt_t, zlt_f, zle_t, zle_f, zeq_t, zeq_f, lz, zadd, zsub, zmul, zneg, zb_e0, zb_e1, boo0, boo1, ua_s, ua_n, ua_ua, up_s, u2_s, u2_f, u2_c, u2_u2, Int.natCast_add, Int.zero_add, Int.add_zero, ↓reduceIte, ne_eq, not_true_eq_false, not_false_eq_true, Int.natCast_one, ↓mc_59, e]⟩)
  · exact .inr (.inr ⟨ho, A1, g1, by simp (implicitDefEqProofs := false) (disch := omega) only [↓rI_s, ↓rV_s, ↓rI_e, ↓rV_e, zc_eq, zc_ne, zc_lt, zc_ge, zc_gt, zc_le, zlt_t, zlt_f, zle_t, zle_f, zeq_t, zeq_f, lz, zadd, zsub, zmul, zneg, zb_e0, zb_e1, boo0, boo1, ua_s, ua_n, ua_ua, up_s, u2_s, u2_f, u2_c, u2_u2, Int.natCast_add, Int.zero_add, Int.add_zero, ↓reduceIte, ne_eq, not_true_eq_false, not_false_eq_true, Int.natCast_one, ↓mc_59, e]⟩)
theorem M_mean {w p q k : Int} (hd : 14 ≤ d) (hX : mX R F s I A) (h0 : wI w) (h1 : wI p) (h2 : wI q) (h3 : wI k) : mOut I A W (q_call q_MT d 250 [.ref 59, .int (zI w), .int (zI p), .int (zI q), .int (zI k)] (zM I A W)) (if 0 ≤ w ∧ w < rW R then (if (1 ≤ p ∧ p ≤ 9) ∧ (0 ≤ q ∧ q ≤ 16) ∧ (0 ≤ k ∧ k ≤ 1) then 0 else 2) else 1) (vThumb R F s w p q k 1) 2 := by
  obtain ⟨d, rfl⟩ : ∃ e, d = e + 1 := ⟨d - 1, by omega⟩
  have := M_thumb (b := 1) (W := W) (show 13 ≤ d by omega) hX h0 h1 h2 h3 (by omega)
  rw [cl_X11_mean, k_X11_mean_0]
  simp only [lz]
  rcases this with ⟨ho, I1, A1, l, g1, g2, g3, g4, e⟩ | ⟨ho, e⟩ | ⟨ho, A1, g1, e⟩
  · exact .inl ⟨ho, I1, A1, l, g1, g2, g3, g4, by simp (implicitDefEqProofs := false) (disch := omega) only [↓rI_s, ↓rV_s, ↓rI_e, ↓rV_e, zc_eq, zc_ne, zc_lt, zc_ge, zc_gt, zc_le, zlt_t, zlt_f, zle_t, zle_f, zeq_t, zeq_f, lz, zadd, zsub, zmul, zneg, zb_e0, zb_e1, boo0, boo1, ua_s, ua_n, ua_ua, up_s, u2_s, u2_f, u2_c, u2_u2, Int.natCast_add, Int.zero_add, Int.add_zero, ↓reduceIte, ne_eq, not_true_eq_false, not_false_eq_true, Int.natCast_one, ↓mc_59, e]⟩
  · exact .inr (.inl ⟨ho, by simp (implicitDefEqProofs := false) (disch := omega) only [↓rI_s, ↓rV_s, ↓rI_e, ↓rV_e, zc_eq, zc_ne, zc_lt, zc_ge, zc_gt, zc_le, zlt_t, zlt_f, zle_t, zle_f, zeq_t, zeq_f, lz, zadd, zsub, zmul, zneg, zb_e0, zb_e1, boo0, boo1, ua_s, ua_n, ua_ua, up_s, u2_s, u2_f, u2_c, u2_u2, Int.natCast_add, Int.zero_add, Int.add_zero, ↓reduceIte, ne_eq, not_true_eq_false, not_false_eq_true, Int.natCast_one, ↓mc_59, e]⟩)
  · exact .inr (.inr ⟨ho, A1, g1, by simp (implicitDefEqProofs := false) (disch := omega) only [↓rI_s, ↓rV_s, ↓rI_e, ↓rV_e, zc_eq, zc_ne, zc_lt, zc_ge, zc_gt, zc_le, zlt_t, zlt_f, zle_t, zle_f, zeq_t, zeq_f, lz, zadd, zsub, zmul, zneg, zb_e0, zb_e1, boo0, boo1, ua_s, ua_n, ua_ua, up_s, u2_s, u2_f, u2_c, u2_u2, Int.natCast_add, Int.zero_add, Int.add_zero, ↓reduceIte, ne_eq, not_true_eq_false, not_false_eq_true, Int.natCast_one, ↓mc_59, e]⟩)
end TH
