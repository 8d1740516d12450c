--DEPS 75.trial
/-! Coins shared. -/
theorem gvn_mono {co : Int → Int} {a b : Int} (h : a ≤ b) : ∀ n : Nat, gvn co a n ≤ gvn co b n
  | 0 => Int.le_refl _
  | n + 1 => by
    have := gvn_mono (co := co) h n
    unfold gvn
    split <;> split <;> omega
theorem gvn_b {co : Int → Int} {a : Int} (h0 : 0 ≤ a) : ∀ n : Nat, (∀ k : Int, 0 ≤ k → k < n → 0 ≤ co k ∧ co k ≤ 9999) → 0 ≤ gvn co a n ∧ gvn co a n ≤ 9999 * n
  | 0, _ => by unfold gvn; omega
  | n + 1, h => by
    have ih := gvn_b h0 n (fun k k0 k1 => h k k0 (by omega))
    have hn := h n (by omega) (by omega)
    unfold gvn
    split <;> omega
def lvR (G : Int → Int) (n : Int) : Nat → Int → Int
  | 0, b => b
  | f + 1, b => if G (b + 1) ≤ n then lvR G n f (b + 1) else b
theorem lvR_p {G : Int → Int} {n : Int} : ∀ (f : Nat) (b : Int), G b ≤ n → b ≤ lvR G n f b ∧ lvR G n f b ≤ b + f ∧ G (lvR G n f b) ≤ n ∧ (lvR G n f b = b + f ∨ ¬ G (lvR G n f b + 1) ≤ n)
  | 0, b, h => by unfold lvR; exact ⟨by omega, by omega, h, .inl (by omega)⟩
  | f + 1, b, h => by
    unfold lvR
    split
    · rename_i q
      have := lvR_p f (b + 1) q
      omega
    · rename_i q
      exact ⟨by omega, by omega, h, .inr q⟩
def vLevel (R : zR) (s : Int → Int) (h n : Int) : Int := if lvR (fun b => gvn (fun h => s (40 + h)) b (rH R)) n 9999 0 < s (40 + h) then lvR (fun b => gvn (fun h => s (40 + h)) b (rH R)) n 9999 0 else s (40 + h)
theorem lvl_eq {G : Int → Int} (hG : ∀ a b, a ≤ b → G a ≤ G b) {n c B : Int} (h0 : G 0 ≤ n) (hc : c ≤ 9999) (hB0 : 0 ≤ B) (hP : G B ≤ n) (hN : ¬ G (B + 1) ≤ n ∨ 16384 ≤ B + 1) : (if B < c then B else c) = if lvR G n 9999 0 < c then lvR G n 9999 0 else c := by
  have := lvR_p (G := G) (n := n) 9999 0 h0
  obtain ⟨p1, p2, p3, p4⟩ := this
  by_cases q1 : B < lvR G n 9999 0
  · have := hG (B + 1) (lvR G n 9999 0) (by omega)
    omega
  · by_cases q2 : lvR G n 9999 0 < B
    · have := hG (lvR G n 9999 0 + 1) B (by omega)
      split <;> split <;> omega
    · have : B = lvR G n 9999 0 := by omega
      rw [this]
def wd (j : Nat) : Int := 16384 / 2 ^ j
theorem wd_d : ∀ j : Fin 14, wd j.val = 2 * wd (j.val + 1) ∧ 0 < wd (j.val + 1) ∧ wd (j.val + 1) ≤ 8192 ∧ zI (wd (j.val + 1)) >>> (zI 1 &&& zI 31) = zI (wd (j.val + 2)) := by decide +kernel
section LV
variable {d : Nat} {I : Nat → Nat → Int} {A : Nat → Int → Int} {W : qWt} {R : zR} {F : zF} {s : Int → Int}
theorem C_level {h n : Int} (hd : 6 ≤ d) (hX : cX R F s I A) (hh : wI h) (hn : wI n) : cOut I A W (q_call q_MT d 139 [.ref 2, .int (zI h), .int (zI n)] (zM I A W)) (if 0 ≤ h ∧ h < rH R then (if 0 ≤ n ∧ n ≤ 9999 then 0 else 2) else 1) (vLevel R s h n) := by
  obtain ⟨d, rfl⟩ : ∃ e, d = e + 1 := ⟨d - 1, by omega⟩
  obtain ⟨hR, hB, ⟨hV, -⟩, hL⟩ := hX
  have h5 := hR.1.1
  rw [cl_X10_level]
  by_cases c1 : 0 ≤ h ∧ h < rH R
  · by_cases c2 : 0 ≤ n ∧ n ≤ 9999
    · rw [if_pos c1, if_pos c2]
      refine cOut.ok fi.refl fr.refl ?_
      simp (implicitDefEqProofs := false) (disch := omega) only [↓rI_s, ↓rV_s, ↓rI_e, ↓rV_e, zc_eq, zc_ne, zc_lt, zc_ge, zc_gt, zc_le, zlt_t, zlt_f, zle_t, zle_f, zeq_t, zeq_f, lz, zadd, zsub, zmul, zneg, zb_e0, zb_e1, boo0, boo1, ua_s, ua_n, ua_ua, up_s, u2_s, u2_f, u2_c, u2_u2, Int.natCast_add, Int.zero_add, Int.add_zero, ↓reduceIte, ne_eq, not_true_eq_false, not_false_eq_true, Int.natCast_one, ↓k_X10_level_0, ↓mc_2, s_needWink (show 2 ≤ d by omega) hR, s_needWink_f (show 2 ≤ d by omega) hR, s_needCup (show 2 ≤ d by omega) hR, s_needCup_f (show 2 ≤ d by omega) hR, s_needHouse (show 2 ≤ d by omega) hR, s_needHouse_f (show 2 ≤ d by omega) hR, s_needThere, s_needThere_f, s_needPress, s_needPress_f, s_needWhat, s_needWhat_f, s_needWithin, s_needWithin_f, s_need1, s_need0, t0_0, t0_1]
      have hG : ∀ a b : Int, a ≤ b → gvn (fun h => s (40 + h)) a (rH R) ≤ gvn (fun h => s (40 + h)) b (rH R) := fun a b hab => gvn_mono hab _
      have hpu : ∀ k : Int, 0 ≤ k → k < rH R → 0 ≤ (fun h => s (40 + h)) k ∧ (fun h => s (40 + h)) k ≤ 9999 := hV.2.2.2.2
      have hG0 : gvn (fun h => s (40 + h)) 0 (rH R) ≤ n := by
        have : ∀ m : Nat, m ≤ rH R → gvn (fun h => s (40 + h)) 0 m = 0 := by
          intro m
          induction m with
          | zero => intro _; rfl
          | succ m ih =>
            intro hm
            have := hpu m (by omega) (by omega)
            dsimp only at this
            unfold gvn
            rw [ih (by omega)]
            split <;> omega
        rw [this _ (Nat.le_refl _)]; exact c2.1
      refine lp_x (fun j (b : Int) => q_run qm_X10_level (q_call q_MT d) 21 [.ref 2, .int (zI h), .int (zI n), .int (zI b), .int (zI (wd (j + 1)))] [] (zM I A W)) (fun j b => 0 ≤ b ∧ b + wd j ≤ 16384 ∧ gvn (fun h => s (40 + h)) b (rH R) ≤ n ∧ (¬ gvn (fun h => s (40 + h)) (b + wd j) (rH R) ≤ n ∨ 16384 ≤ b + wd j)) (fun r => r = _) 14 ?_ ?_ 0 0 (by omega) ⟨by decide, by decide, hG0, .inr (by decide)⟩
      · rintro b ⟨b0, b1, b2, b3⟩
        have w14 : wd 14 = 1 := by decide
        have w15 : wd 15 = 0 := by decide
        rw [w14] at b1 b3
        have b4 := hB.2.2.2.1 h c1.1 c1.2
        have p4 := hV.2.2.2.2 h c1.1 c1.2
        rw [k_X10_level_21, w15]
        simp (implicitDefEqProofs := false) (disch := omega) only [↓rI_s, ↓rV_s, ↓rI_e, ↓rV_e, zc_eq, zc_ne, zc_lt, zc_ge, zc_gt, zc_le, zlt_t, zlt_f, zle_t, zle_f, zeq_t, zeq_f, lz, zadd, zsub, zmul, zneg, zb_e0, zb_e1, boo0, boo1, ua_s, ua_n, ua_ua, up_s, u2_s, u2_f, u2_c, u2_u2, Int.natCast_add, Int.zero_add, Int.add_zero, ↓reduceIte, ne_eq, not_true_eq_false, not_false_eq_true, Int.natCast_one, ↓zg_2_6, ↓zg_24_5, zl_28, b4, zif]
        exact rz (lvl_eq hG hG0 p4.2 b0 b2 b3)
      · rintro j b hj ⟨b0, b1, b2, b3⟩
        obtain ⟨e1, e2, e3, e4⟩ := wd_d ⟨j, hj⟩
        dsimp only at e1 e2 e3 e4
        have gb := gvn_b (co := fun h => s (40 + h)) (a := b + wd (j + 1)) (by omega) (rH R) hpu
        rw [k_X10_level_21]
        simp (implicitDefEqProofs := false) (disch := omega) only [↓rI_s, ↓rV_s, ↓rI_e, ↓rV_e, zc_eq, zc_ne, zc_lt, zc_ge, zc_gt, zc_le, zlt_t, zlt_f, zle_t, zle_f, zeq_t, zeq_f, lz, zadd, zsub, zmul, zneg, zb_e0, zb_e1, boo0, boo1, ua_s, ua_n, ua_ua, up_s, u2_s, u2_f, u2_c, u2_u2, Int.natCast_add, Int.zero_add, Int.add_zero, ↓reduceIte, ne_eq, not_true_eq_false, not_false_eq_true, Int.natCast_one, ↓zg_2_6, ↓mc_24]
        rw [c24_givenWithin (by omega) hR hB hV.1 hV (by omega)]
        by_cases q : gvn (fun h => s (40 + h)) (b + wd (j + 1)) (rH R) ≤ n
        · refine .inr ⟨b + wd (j + 1), ⟨by omega, by omega, q, ?_⟩, ?_⟩
          · rw [show b + wd (j + 1) + wd (j + 1) = b + wd j by omega]; exact b3
          · simp (implicitDefEqProofs := false) (disch := omega) only [↓rI_s, ↓rV_s, ↓rI_e, ↓rV_e, zc_eq, zc_ne, zc_lt, zc_ge, zc_gt, zc_le, zlt_t, zlt_f, zle_t, zle_f, zeq_t, zeq_f, lz, zadd, zsub, zmul, zneg, zb_e0, zb_e1, boo0, boo1, ua_s, ua_n, ua_ua, up_s, u2_s, u2_f, u2_c, u2_u2, Int.natCast_add, Int.zero_add, Int.add_zero, ↓reduceIte, ne_eq, not_true_eq_false, not_false_eq_true, Int.natCast_one, ↓k_X10_level_46, e4]
        · refine .inr ⟨b, ⟨b0, by omega, b2, .inl q⟩, ?_⟩
          simp (implicitDefEqProofs := false) (disch := omega) only [↓rI_s, ↓rV_s, ↓rI_e, ↓rV_e, zc_eq, zc_ne, zc_lt, zc_ge, zc_gt, zc_le, zlt_t, zlt_f, zle_t, zle_f, zeq_t, zeq_f, lz, zadd, zsub, zmul, zneg, zb_e0, zb_e1, boo0, boo1, ua_s, ua_n, ua_ua, up_s, u2_s, u2_f, u2_c, u2_u2, Int.natCast_add, Int.zero_add, Int.add_zero, ↓reduceIte, ne_eq, not_true_eq_false, not_false_eq_true, Int.natCast_one, ↓k_X10_level_46, e4]
    · rw [if_pos c1, if_neg c2]
      exact cOut.il (by simp (implicitDefEqProofs := false) (disch := omega) only [↓rI_s, ↓rV_s, ↓rI_e, ↓rV_e, zc_eq, zc_ne, zc_lt, zc_ge, zc_gt, zc_le, zlt_t, zlt_f, zle_t, zle_f, zeq_t, zeq_f, lz, zadd, zsub, zmul, zneg, zb_e0, zb_e1, boo0, boo1, ua_s, ua_n, ua_ua, up_s, u2_s, u2_f, u2_c, u2_u2, Int.natCast_add, Int.zero_add, Int.add_zero, ↓reduceIte, ne_eq, not_true_eq_false, not_false_eq_true, Int.natCast_one, ↓k_X10_level_0, ↓mc_2, s_needWink (show 2 ≤ d by omega) hR, s_needWink_f (show 2 ≤ d by omega) hR, s_needCup (show 2 ≤ d by omega) hR, s_needCup_f (show 2 ≤ d by omega) hR, s_needHouse (show 2 ≤ d by omega) hR, s_needHouse_f (show 2 ≤ d by omega) hR, s_needThere, s_needThere_f, s_needPress, s_needPress_f, s_needWhat, s_needWhat_f, s_needWithin, s_needWithin_f, s_need1, s_need0, t0_0, t0_1])
  · rw [if_neg c1]
    exact cOut.ns (by simp (implicitDefEqProofs := false) (disch := omega) only [↓rI_s, ↓rV_s, ↓rI_e, ↓rV_e, zc_eq, zc_ne, zc_lt, zc_ge, zc_gt, zc_le, zlt_t, zlt_f, zle_t, zle_f, zeq_t, zeq_f, lz, zadd, zsub, zmul, zneg, zb_e0, zb_e1, boo0, boo1, ua_s, ua_n, ua_ua, up_s, u2_s, u2_f, u2_c, u2_u2, Int.natCast_add, Int.zero_add, Int.add_zero, ↓reduceIte, ne_eq, not_true_eq_false, not_false_eq_true, Int.natCast_one, ↓k_X10_level_0, ↓mc_2, s_needWink (show 2 ≤ d by omega) hR, s_needWink_f (show 2 ≤ d by omega) hR, s_needCup (show 2 ≤ d by omega) hR, s_needCup_f (show 2 ≤ d by omega) hR, s_needHouse (show 2 ≤ d by omega) hR, s_needHouse_f (show 2 ≤ d by omega) hR, s_needThere, s_needThere_f, s_needPress, s_needPress_f, s_needWhat, s_needWhat_f, s_needWithin, s_needWithin_f, s_need1, s_need0, t0_0, t0_1])
theorem M_level {h n : Int} (hd : 6 ≤ d) (hX : mX R F s I A) (hh : wI h) (hn : wI n) : mOut I A W (q_call q_MT d 265 [.ref 59, .int (zI h), .int (zI n)] (zM I A W)) (if 0 ≤ h ∧ h < rH R then (if 0 ≤ n ∧ n ≤ 9999 then 0 else 2) else 1) (vLevel R s h n) 2 := by
  obtain ⟨d, rfl⟩ : ∃ e, d = e + 1 := ⟨d - 1, by omega⟩
  have hX' := hX
  obtain ⟨hR, hs, ⟨hV, -⟩, hL⟩ := hX
  have h5 := hR.1.1
  rw [cl_X11_level]
  by_cases c1 : 0 ≤ h ∧ h < rH R
  · by_cases c2 : 0 ≤ n ∧ n ≤ 9999
    · rw [if_pos c1, if_pos c2]
      refine mOut.ok (I1 := u2 I 59 0 0) (A1 := A) (fi.refl.f rfl) fr.refl u2_s ?_
      simp (implicitDefEqProofs := false) (disch := omega) only [↓rI_s, ↓rV_s, ↓rI_e, ↓rV_e, zc_eq, zc_ne, zc_lt, zc_ge, zc_gt, zc_le, zlt_t, zlt_f, zle_t, zle_f, zeq_t, zeq_f, lz, zadd, zsub, zmul, zneg, zb_e0, zb_e1, boo0, boo1, ua_s, ua_n, ua_ua, up_s, u2_s, u2_f, u2_c, u2_u2, Int.natCast_add, Int.zero_add, Int.add_zero, ↓reduceIte, ne_eq, not_true_eq_false, not_false_eq_true, Int.natCast_one, ↓k_X11_level_0, ↓mc_59, ↓zp_59_0, s_within, s_within_f, s_isPress, s_isPress_f, s_isWink (show 2 ≤ d by omega) hR, s_isWink_f (show 2 ≤ d by omega) hR, s_isHouse (show 2 ≤ d by omega) hR, s_isHouse_f (show 2 ≤ d by omega) hR, s_may1, s_may0, m_take (show 2 ≤ d by omega)]
      have hpu : ∀ k : Int, 0 ≤ k → k < rH R → 0 ≤ (fun h => s (40 + h)) k ∧ (fun h => s (40 + h)) k ≤ 9999 := hV.2.2.2.2
      have hp76 : ∀ k : Int, 0 ≤ k → k < rH R → 0 ≤ A 76 (40 + k) ∧ A 76 (40 + k) ≤ 9999 := fun k k0 k1 => by
        rw [hX'.n (by omega) (by omega)]; exact hV.2.2.2.2 k k0 k1
      have hg76 : ∀ b : Int, gvn (fun h => A 76 (40 + h)) b (rH R) = gvn (fun h => s (40 + h)) b (rH R) := by
        intro b
        have : ∀ m : Nat, m ≤ rH R → gvn (fun h => A 76 (40 + h)) b m = gvn (fun h => s (40 + h)) b m := by
          intro m
          induction m with
          | zero => intro _; rfl
          | succ m ih =>
            intro hm
            unfold gvn
            rw [ih (by omega), hX'.n (by omega) (by omega)]
        exact this _ (Nat.le_refl _)
      have n4 := hX'.n (j := 40 + h) (by omega) (by omega)
      have p4 := hV.2.2.2.2 h c1.1 c1.2
      have key : ∀ (f : Nat) (b : Int), 0 ≤ b → b + f = 9999 → q_run qm_X11_level (q_call q_MT d) 35 [.ref 59, .int (zI h), .int (zI n), .int (zI b)] [] (zM (u2 I 59 0 0) A W) = some (.inl (some (.int (zI (if lvR (fun b => gvn (fun h => s (40 + h)) b (rH R)) n f b < s (40 + h) then lvR (fun b => gvn (fun h => s (40 + h)) b (rH R)) n f b else s (40 + h))))), zM (u2 I 59 0 0) A W) := by
        have fin : ∀ b : Int, 0 ≤ b → b ≤ 9999 → q_run qm_X11_level (q_call q_MT d) 59 [.ref 59, .int (zI h), .int (zI n), .int (zI b)] [] (zM (u2 I 59 0 0) A W) = some (.inl (some (.int (zI (if b < s (40 + h) then b else s (40 + h))))), zM (u2 I 59 0 0) A W) := by
          intro b b0 b1
          rw [k_X11_level_59]
          by_cases q : s (40 + h) < b
          · rw [if_neg (show ¬ b < s (40 + h) by omega)]
            simp (implicitDefEqProofs := false) (disch := omega) only [↓rI_s, ↓rV_s, ↓rI_e, ↓rV_e, zc_eq, zc_ne, zc_lt, zc_ge, zc_gt, zc_le, zlt_t, zlt_f, zle_t, zle_f, zeq_t, zeq_f, lz, zadd, zsub, zmul, zneg, zb_e0, zb_e1, boo0, boo1, ua_s, ua_n, ua_ua, up_s, u2_s, u2_f, u2_c, u2_u2, Int.natCast_add, Int.zero_add, Int.add_zero, ↓reduceIte, ne_eq, not_true_eq_false, not_false_eq_true, Int.natCast_one, ↓zg_59_42, zl_76, n4, ↓k_X11_level_85]
          · simp (implicitDefEqProofs := false) (disch := omega) only [↓rI_s, ↓rV_s, ↓rI_e, ↓rV_e, zc_eq, zc_ne, zc_lt, zc_ge, zc_gt, zc_le, zlt_t, zlt_f, zle_t, zle_f, zeq_t, zeq_f, lz, zadd, zsub, zmul, zneg, zb_e0, zb_e1, boo0, boo1, ua_s, ua_n, ua_ua, up_s, u2_s, u2_f, u2_c, u2_u2, Int.natCast_add, Int.zero_add, Int.add_zero, ↓reduceIte, ne_eq, not_true_eq_false, not_false_eq_true, Int.natCast_one, ↓zg_59_42, zl_76, n4, ↓k_X11_level_85]
            refine rz ?_
            split <;> omega
        intro f
        induction f with
        | zero =>
          intro b b0 hb
          have e := fin b b0 (by omega)
          rw [k_X11_level_35]
          simp (implicitDefEqProofs := false) (disch := omega) only [↓rI_s, ↓rV_s, ↓rI_e, ↓rV_e, zc_eq, zc_ne, zc_lt, zc_ge, zc_gt, zc_le, zlt_t, zlt_f, zle_t, zle_f, zeq_t, zeq_f, lz, zadd, zsub, zmul, zneg, zb_e0, zb_e1, boo0, boo1, ua_s, ua_n, ua_ua, up_s, u2_s, u2_f, u2_c, u2_u2, Int.natCast_add, Int.zero_add, Int.add_zero, ↓reduceIte, ne_eq, not_true_eq_false, not_false_eq_true, Int.natCast_one, e]
          rfl
        | succ f ih =>
          intro b b0 hb
          have gb := gvn_b (co := fun h => s (40 + h)) (a := b + 1) (by omega) (rH R) hpu
          rw [k_X11_level_35]
          simp (implicitDefEqProofs := false) (disch := omega) only [↓rI_s, ↓rV_s, ↓rI_e, ↓rV_e, zc_eq, zc_ne, zc_lt, zc_ge, zc_gt, zc_le, zlt_t, zlt_f, zle_t, zle_f, zeq_t, zeq_f, lz, zadd, zsub, zmul, zneg, zb_e0, zb_e1, boo0, boo1, ua_s, ua_n, ua_ua, up_s, u2_s, u2_f, u2_c, u2_u2, Int.natCast_add, Int.zero_add, Int.add_zero, ↓reduceIte, ne_eq, not_true_eq_false, not_false_eq_true, Int.natCast_one, ↓mc_59]
          rw [m_givenBy (A := A) (by omega) (hR.fi (K := [(59, 0)]) (fi.refl.f rfl) rfl) hp76 (by omega), hg76]
          by_cases q : gvn (fun h => s (40 + h)) (b + 1) (rH R) ≤ n
          · have el : lvR (fun b => gvn (fun h => s (40 + h)) b (rH R)) n (f + 1) b = lvR (fun b => gvn (fun h => s (40 + h)) b (rH R)) n f (b + 1) := if_pos q
            rw [el]
            simp (implicitDefEqProofs := false) (disch := omega) only [↓rI_s, ↓rV_s, ↓rI_e, ↓rV_e, zc_eq, zc_ne, zc_lt, zc_ge, zc_gt, zc_le, zlt_t, zlt_f, zle_t, zle_f, zeq_t, zeq_f, lz, zadd, zsub, zmul, zneg, zb_e0, zb_e1, boo0, boo1, ua_s, ua_n, ua_ua, up_s, u2_s, u2_f, u2_c, u2_u2, Int.natCast_add, Int.zero_add, Int.add_zero, ↓reduceIte, ne_eq, not_true_eq_false, not_false_eq_true, Int.natCast_one]
            exact ih (b + 1) (by omega) (by omega)
          · have el : lvR (fun b => gvn (fun h => s (40 + h)) b (rH R)) n (f + 1) b = b := if_neg q
            rw [el]
            simp (implicitDefEqProofs := false) (disch := omega) only [↓rI_s, ↓rV_s, ↓rI_e, ↓rV_e, zc_eq, zc_ne, zc_lt, zc_ge, zc_gt, zc_le, zlt_t, zlt_f, zle_t, zle_f, zeq_t, zeq_f, lz, zadd, zsub, zmul, zneg, zb_e0, zb_e1, boo0, boo1, ua_s, ua_n, ua_ua, up_s, u2_s, u2_f, u2_c, u2_u2, Int.natCast_add, Int.zero_add, Int.add_zero, ↓reduceIte, ne_eq, not_true_eq_false, not_false_eq_true, Int.natCast_one]
            exact fin b b0 (by omega)
      exact key 9999 0 (by decide) (by decide)
    · rw [if_pos c1, if_neg c2]
      exact mOut.il fr.refl (by simp (implicitDefEqProofs := false) (disch := omega) only [↓rI_s, ↓rV_s, ↓rI_e, ↓rV_e, zc_eq, zc_ne, zc_lt, zc_ge, zc_gt, zc_le, zlt_t, zlt_f, zle_t, zle_f, zeq_t, zeq_f, lz, zadd, zsub, zmul, zneg, zb_e0, zb_e1, boo0, boo1, ua_s, ua_n, ua_ua, up_s, u2_s, u2_f, u2_c, u2_u2, Int.natCast_add, Int.zero_add, Int.add_zero, ↓reduceIte, ne_eq, not_true_eq_false, not_false_eq_true, Int.natCast_one, ↓k_X11_level_0, ↓k_X11_level_31, ↓k_X11_level_59, ↓k_X11_level_85, zp_59_0, ↓mc_59, ↓zg_59_42, zl_76, zs_76, ↓zn_76, ↓mc_59, ↓zp_59_0, s_within, s_within_f, s_isPress, s_isPress_f, s_isWink (show 2 ≤ d by omega) hR, s_isWink_f (show 2 ≤ d by omega) hR, s_isHouse (show 2 ≤ d by omega) hR, s_isHouse_f (show 2 ≤ d by omega) hR, s_may1, s_may0, m_take (show 2 ≤ d by omega)])
  · rw [if_neg c1]
    exact mOut.ns (by simp (implicitDefEqProofs := false) (disch := omega) only [↓rI_s, ↓rV_s, ↓rI_e, ↓rV_e, zc_eq, zc_ne, zc_lt, zc_ge, zc_gt, zc_le, zlt_t, zlt_f, zle_t, zle_f, zeq_t, zeq_f, lz, zadd, zsub, zmul, zneg, zb_e0, zb_e1, boo0, boo1, ua_s, ua_n, ua_ua, up_s, u2_s, u2_f, u2_c, u2_u2, Int.natCast_add, Int.zero_add, Int.add_zero, ↓reduceIte, ne_eq, not_true_eq_false, not_false_eq_true, Int.natCast_one, ↓k_X11_level_0, ↓k_X11_level_31, ↓k_X11_level_59, ↓k_X11_level_85, zp_59_0, ↓mc_59, ↓zg_59_42, zl_76, zs_76, ↓zn_76, ↓mc_59, ↓zp_59_0, s_within, s_within_f, s_isPress, s_isPress_f, s_isWink (show 2 ≤ d by omega) hR, s_isWink_f (show 2 ≤ d by omega) hR, s_isHouse (show 2 ≤ d by omega) hR, s_isHouse_f (show 2 ≤ d by omega) hR, s_may1, s_may0, m_take (show 2 ≤ d by omega)])
end LV
