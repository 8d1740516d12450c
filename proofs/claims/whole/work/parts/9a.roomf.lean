--DEPS 99.rooms
section RF
variable {d : Nat} {I : Nat → Nat → Int} {A : Nat → Int → Int} {W : qWt} {T : Int → Int} {n a : Int} {D : zD}
theorem c_begin (hd : 2 ≤ d) (hk : dOK D) (ho : onF D) (h0 : I 5 0 = D.1 0) (h1 : I 5 1 = D.1 1) (g6 : ∀ j : Int, 0 ≤ j → j < 5 → A 6 j = D.2 13 j) (g9 : ∀ j : Int, 0 ≤ j → j < 10 → A 9 j = D.2 16 j) : ∃ A', fr [25, 26, 27, 28, 29] A A' ∧ bR (Rn D) (sNw D) (A' 25) (A' 26) (A' 27) (A' 28) (A' 29) 0 0 ∧ q_call q_MT d 19 [.ref 24] (zM I A W) = some (.inl none, zM (u2 (u2 I 24 7 0) 24 8 0) A' W) := by
  obtain ⟨d, rfl⟩ : ∃ e, d = e + 1 := ⟨d - 1, by omega⟩
  obtain ⟨k0, k1, k2, k3, k4, k5, k6, k7⟩ := hk
  have eH : (rH (Rn D) : Int) = D.1 0 := Int.toNat_of_nonneg k0.1
  have eW : (rW (Rn D) : Int) = D.1 1 := Int.toNat_of_nonneg k1.1
  rw [← eH] at h0
  rw [← eW] at h1
  have w10 : rW (Rn D) ≤ 10 := by omega
  have hh5 : rH (Rn D) ≤ 5 := by omega
  have pos : ∀ w : Int, 0 ≤ w → w < rW (Rn D) → 0 ≤ D.2 16 w ∧ D.2 16 w < 30 := fun w w0 w1 => by
    have := (k6 w w0 (by omega)).2.2
    omega
  rw [cl_X1_begin]
  simp (implicitDefEqProofs := false) (disch := omega) only [↓rI_s, ↓rV_s, ↓rI_e, ↓rV_e, zc_eq, zc_ne, zc_lt, zc_ge, zc_gt, zc_le, zlt_t, zlt_f, zle_t, zle_f, zeq_t, zeq_f, lz, zadd, zsub, zmul, zneg, zb_e0, zb_e1, boo0, boo1, ua_s, ua_n, ua_ua, up_s, u2_s, u2_f, u2_c, u2_u2, Int.natCast_add, Int.zero_add, Int.add_zero, ↓reduceIte, ne_eq, not_true_eq_false, not_false_eq_true, Int.natCast_one, ↓k_X1_begin_0, ↓zp_24_7, ↓zp_24_8]
  generalize hJ : u2 (u2 I 24 7 0) 24 8 0 = J
  have j0 : J 5 0 = rH (Rn D) := by rw [← hJ]; exact h0
  have j1 : J 5 1 = rW (Rn D) := by rw [← hJ]; exact h1
  have z1 : ∃ g, (∀ y : Int, 0 ≤ y → y < 30 → g y = 0) ∧ q_run qm_X1_begin (q_call q_MT d) 12 [.ref 24, .int (zI 0)] [] (zM J A W) = q_run qm_X1_begin (q_call q_MT d) 33 [.ref 24, .int (zI 0)] [] (zM J (ua A 29 g) W) := by
    have hid : ua A 29 (A 29) = A := ua_id
    conv => enter [1, g, 2, 1]; rw [← hid]
    refine lp_x (fun j (g : Int → Int) => q_run qm_X1_begin (q_call q_MT d) 12 [.ref 24, .int (zI j)] [] (zM J (ua A 29 g) W)) (fun j g => ∀ y : Int, 0 ≤ y → y < j → g y = 0) (fun r => ∃ g, (∀ y : Int, 0 ≤ y → y < 30 → g y = 0) ∧ r = q_run qm_X1_begin (q_call q_MT d) 33 [.ref 24, .int (zI 0)] [] (zM J (ua A 29 g) W)) 30 ?_ ?_ 0 (A 29) (by omega) (fun y y0 y1 => by omega)
    · intro g hg
      refine ⟨g, hg, ?_⟩
      rw [k_X1_begin_12]
      simp (implicitDefEqProofs := false) (disch := omega) only [↓rI_s, ↓rV_s, ↓rI_e, ↓rV_e, zc_eq, zc_ne, zc_lt, zc_ge, zc_gt, zc_le, zlt_t, zlt_f, zle_t, zle_f, zeq_t, zeq_f, lz, zadd, zsub, zmul, zneg, zb_e0, zb_e1, boo0, boo1, ua_s, ua_n, ua_ua, up_s, u2_s, u2_f, u2_c, u2_u2, Int.natCast_add, Int.zero_add, Int.add_zero, ↓reduceIte, ne_eq, not_true_eq_false, not_false_eq_true, Int.natCast_one]
    · intro j g hj hg
      refine .inr ⟨up g j 0, fun y y0 y1 => ?_, ?_⟩
      · by_cases e : y = j
        · subst e; rw [up_s]
        · rw [up_n e]; exact hg y y0 (by omega)
      · rw [k_X1_begin_12]
        simp (implicitDefEqProofs := false) (disch := omega) only [↓rI_s, ↓rV_s, ↓rI_e, ↓rV_e, zc_eq, zc_ne, zc_lt, zc_ge, zc_gt, zc_le, zlt_t, zlt_f, zle_t, zle_f, zeq_t, zeq_f, lz, zadd, zsub, zmul, zneg, zb_e0, zb_e1, boo0, boo1, ua_s, ua_n, ua_ua, up_s, u2_s, u2_f, u2_c, u2_u2, Int.natCast_add, Int.zero_add, Int.add_zero, ↓reduceIte, ne_eq, not_true_eq_false, not_false_eq_true, Int.natCast_one, ↓zg_24_6, zs_29]
  obtain ⟨g, hg, e1⟩ := z1
  rw [e1]
  have z2 : ∃ f, (∀ y : Int, 0 ≤ y → y < rH (Rn D) → f y = D.2 13 y) ∧ q_run qm_X1_begin (q_call q_MT d) 33 [.ref 24, .int (zI 0)] [] (zM J (ua A 29 g) W) = q_run qm_X1_begin (q_call q_MT d) 67 [.ref 24, .int (zI 0)] [] (zM J (ua (ua A 29 g) 28 f) W) := by
    have hid : ua (ua A 29 g) 28 (A 28) = ua A 29 g := ua_id (A := ua A 29 g) (c := 28)
    conv => enter [1, g, 2, 1]; rw [← hid]
    refine lp_x (fun j (f : Int → Int) => q_run qm_X1_begin (q_call q_MT d) 33 [.ref 24, .int (zI j)] [] (zM J (ua (ua A 29 g) 28 f) W)) (fun j f => ∀ y : Int, 0 ≤ y → y < j → f y = D.2 13 y) (fun r => ∃ f, (∀ y : Int, 0 ≤ y → y < rH (Rn D) → f y = D.2 13 y) ∧ r = q_run qm_X1_begin (q_call q_MT d) 67 [.ref 24, .int (zI 0)] [] (zM J (ua (ua A 29 g) 28 f) W)) (rH (Rn D)) ?_ ?_ 0 (A 28) (by omega) (fun y y0 y1 => by omega)
    · intro f hf
      refine ⟨f, hf, ?_⟩
      rw [k_X1_begin_33]
      simp (implicitDefEqProofs := false) (disch := omega) only [↓rI_s, ↓rV_s, ↓rI_e, ↓rV_e, zc_eq, zc_ne, zc_lt, zc_ge, zc_gt, zc_le, zlt_t, zlt_f, zle_t, zle_f, zeq_t, zeq_f, lz, zadd, zsub, zmul, zneg, zb_e0, zb_e1, boo0, boo1, ua_s, ua_n, ua_ua, up_s, u2_s, u2_f, u2_c, u2_u2, Int.natCast_add, Int.zero_add, Int.add_zero, ↓reduceIte, ne_eq, not_true_eq_false, not_false_eq_true, Int.natCast_one, ↓zg_24_0, ↓zg_5_0, j0, Int.le_refl]
    · intro j f hj hf
      have gj := g6 j (by omega) (by omega)
      refine .inr ⟨up f j (D.2 13 j), fun y y0 y1 => ?_, ?_⟩
      · by_cases e : y = j
        · subst e; rw [up_s]
        · rw [up_n e]; exact hf y y0 (by omega)
      · rw [k_X1_begin_33]
        simp (implicitDefEqProofs := false) (disch := omega) only [↓rI_s, ↓rV_s, ↓rI_e, ↓rV_e, zc_eq, zc_ne, zc_lt, zc_ge, zc_gt, zc_le, zlt_t, zlt_f, zle_t, zle_f, zeq_t, zeq_f, lz, zadd, zsub, zmul, zneg, zb_e0, zb_e1, boo0, boo1, ua_s, ua_n, ua_ua, up_s, u2_s, u2_f, u2_c, u2_u2, Int.natCast_add, Int.zero_add, Int.add_zero, ↓reduceIte, ne_eq, not_true_eq_false, not_false_eq_true, Int.natCast_one, ↓zg_24_0, ↓zg_5_0, j0, ↓zg_24_5, ↓zg_5_5, zl_6, gj, zs_28]
  obtain ⟨f, hf, e2⟩ := z2
  rw [e2]
  refine lp_x (fun j (B : Nat → Int → Int) => q_run qm_X1_begin (q_call q_MT d) 67 [.ref 24, .int (zI j)] [] (zM J B W)) (fun j B => fr [25, 26, 27, 28, 29] A B ∧ B 28 = f ∧ (∀ v : Int, 0 ≤ v → v < j → B 25 v = D.2 16 v ∧ B 26 v = cnt v.toNat (fun o => decide (D.2 16 o = D.2 16 v)) ∧ B 27 v = 0) ∧ ∀ x : Int, 0 ≤ x → x < 30 → B 29 x = cnt j (fun o => decide (D.2 16 o = x))) (fun r => ∃ A', fr [25, 26, 27, 28, 29] A A' ∧ bR (Rn D) (sNw D) (A' 25) (A' 26) (A' 27) (A' 28) (A' 29) 0 0 ∧ r = some (.inl none, zM J A' W)) (rW (Rn D)) ?_ ?_ 0 (ua (ua A 29 g) 28 f) (by omega) ⟨(fr.refl.a rfl).a rfl, by rw [ua_s], fun v v0 v1 => by omega, fun x x0 x1 => by rw [ua_n (by decide), ua_s]; exact hg x x0 x1⟩
  · rintro B ⟨f1, f2, f3, f4⟩
    refine ⟨B, f1, ⟨fun w w0 w1 => ?_, fun w w0 w1 => ?_, fun w w0 w1 => ?_, fun h q0 q1 => ?_, fun x x0 x1 => ?_, ?_, ?_⟩, ?_⟩
    · have := pos w w0 w1
      rw [(f3 w w0 w1).1, sNw_0 (j := w) (by omega)]
      unfold enc
      rw [if_neg (by omega)]
    · rw [(f3 w w0 w1).2.1, sNw_1 w0 (by omega)]
    · rw [(f3 w w0 w1).2.2, sNw_2 (by omega) (by omega)]
    · rw [f2, sNw_4 q0 (by omega)]; exact hf h q0 q1
    · rw [f4 x x0 x1]
      exact cnt_cg fun k hk => by rw [sNw_0 (j := (k : Int)) (by omega)]
    · rw [sNw_5 (by omega)]
    · rw [sNw_5 (by omega)]
    · rw [k_X1_begin_67]
      simp (implicitDefEqProofs := false) (disch := omega) only [↓rI_s, ↓rV_s, ↓rI_e, ↓rV_e, zc_eq, zc_ne, zc_lt, zc_ge, zc_gt, zc_le, zlt_t, zlt_f, zle_t, zle_f, zeq_t, zeq_f, lz, zadd, zsub, zmul, zneg, zb_e0, zb_e1, boo0, boo1, ua_s, ua_n, ua_ua, up_s, u2_s, u2_f, u2_c, u2_u2, Int.natCast_add, Int.zero_add, Int.add_zero, ↓reduceIte, ne_eq, not_true_eq_false, not_false_eq_true, Int.natCast_one, ↓zg_24_0, ↓zg_5_1, j1, Int.le_refl]
  · rintro j B hj ⟨f1, f2, f3, f4⟩
    have p := pos j (by omega) (by omega)
    have b9 : B 9 = A 9 := f1 9 rfl
    have gj : B 9 j = D.2 16 j := by rw [b9]; exact g9 j (by omega) (by omega)
    have hx := f4 (D.2 16 j) p.1 p.2
    have el := c24_layOnTop (I := J) (A := ua B 27 (up (B 27) j 0)) (W := W) (d := d) (w := j) (x := D.2 16 j) (by omega) (by omega) (by omega) p.1 p.2
    refine .inr ⟨ua (ua (ua (ua B 27 (up (B 27) j 0)) 25 (up (B 25) j (D.2 16 j))) 26 (up (B 26) j (B 29 (D.2 16 j)))) 29 (up (B 29) (D.2 16 j) (B 29 (D.2 16 j) + 1)), ⟨(((f1.a rfl).a rfl).a rfl).a rfl, f2, fun v v0 v1 => ⟨?_, ?_, ?_⟩, fun x x0 x1 => ?_⟩, ?_⟩
    · show up (B 25) j (D.2 16 j) v = _
      by_cases e : v = j
      · subst e; rw [up_s]
      · rw [up_n e]; exact (f3 v v0 (by omega)).1
    · show up (B 26) j (B 29 (D.2 16 j)) v = _
      by_cases e : v = j
      · subst e; rw [up_s, hx, Int.toNat_natCast]
      · rw [up_n e]; exact (f3 v v0 (by omega)).2.1
    · show up (B 27) j 0 v = _
      by_cases e : v = j
      · subst e; rw [up_s]
      · rw [up_n e]; exact (f3 v v0 (by omega)).2.2
    · show up (B 29) (D.2 16 j) (B 29 (D.2 16 j) + 1) x = _
      by_cases e : x = D.2 16 j
      · subst e; rw [up_s, hx, cnt_t (p := fun o => decide (D.2 16 o = D.2 16 j)) (decide_eq_true rfl)]
      · rw [up_n e, f4 x x0 x1, cnt_f (p := fun o => decide (D.2 16 o = x)) (fun q => e (of_decide_eq_true q).symm)]
    · rw [k_X1_begin_67]
      simp (implicitDefEqProofs := false) (disch := omega) only [↓rI_s, ↓rV_s, ↓rI_e, ↓rV_e, zc_eq, zc_ne, zc_lt, zc_ge, zc_gt, zc_le, zlt_t, zlt_f, zle_t, zle_f, zeq_t, zeq_f, lz, zadd, zsub, zmul, zneg, zb_e0, zb_e1, boo0, boo1, ua_s, ua_n, ua_ua, up_s, u2_s, u2_f, u2_c, u2_u2, Int.natCast_add, Int.zero_add, Int.add_zero, ↓reduceIte, ne_eq, not_true_eq_false, not_false_eq_true, Int.natCast_one, ↓zg_24_0, ↓zg_5_1, j1, ↓zg_24_4, zs_27, ↓zg_5_8, zl_9, gj, ↓mc_24, ↓cV el]
abbrev roK : List (Nat × Nat) := [(2, 14), (2, 15), (3, 1), (3, 2), (3, 3), (3, 4), (3, 5), (3, 6), (3, 7), (5, 0), (5, 1), (5, 2), (5, 3), (5, 4), (12, 0), (12, 1), (12, 2), (12, 3), (12, 4), (19, 4), (24, 7), (24, 8), (36, 6)]
abbrev roL : List Nat := [6, 7, 8, 9, 10, 11, 13, 14, 15, 16, 17, 18, 20, 25, 26, 27, 28, 29, 37]
abbrev rbK : List (Nat × Nat) := [(3, 1), (3, 2), (3, 3), (3, 4), (3, 5), (3, 6), (3, 7), (12, 0), (12, 1), (12, 2), (12, 3), (12, 4)]
theorem C_room (hd : 8 ≤ d) (h : tpC T I A) (hn : wI n) : if 0 ≤ n ∧ n ≤ I 3 1 then (match rmA T n A with
    | .inl (k, p) => ∃ I' A', fi rbK I I' ∧ fr dL A A' ∧ I' 3 1 = 0 ∧ I' 3 7 = p ∧ q_call q_MT d 114 [.ref 2, .int (zI n)] (zM I A W) = some (.inl (some (.int (zI (k - 10)))), zM I' A' W)
    | .inr D => ∃ I' A', fi roK I I' ∧ fr roL A A' ∧ I' 3 1 = 0 ∧ I' 3 7 = -1 ∧ I' 2 14 = 0 ∧ I' 2 15 = 0 ∧ I' 36 6 = 0 ∧ (∀ p : Int, 1 ≤ p → p ≤ 9 → A' 37 p = -1) ∧ dOK D ∧ onF D ∧ cX (Rn D) plF (sNw D) I' A' ∧ q_call q_MT d 114 [.ref 2, .int (zI n)] (zM I A W) = some (.inl (some (.int (zI (D.1 1)))), zM I' A' (.null, W.2))) else q_call q_MT d 114 [.ref 2, .int (zI n)] (zM I A W) = qIl I A W := by
  obtain ⟨d, rfl⟩ : ∃ e, d = e + 1 := ⟨d - 1, by omega⟩
  obtain ⟨d, rfl⟩ : ∃ e, d = e + 1 := ⟨d - 1, by omega⟩
  have h600 := h.2.2.2
  rw [cl_X10_room, k_X10_room_0]
  split
  · rename_i q
    obtain ⟨I1, x1, x2, x3, x4, x5⟩ := c_openText (W := W) (d := d + 1) (m := 600) (by omega) h ⟨q.1, by omega, q.2⟩ (by omega)
    obtain ⟨d, rfl⟩ : ∃ e, d = e + 1 := ⟨d - 1, by omega⟩
    have ecl : q_call q_MT (d + 1) 75 [.ref 12] (zM I1 A W) = some (.inl none, zM (u2 (u2 (u2 (u2 (u2 I1 12 0 0) 12 1 0) 12 2 0) 12 3 12) 12 4 3) A W) := by
      rw [cl_X6_clear]
      simp (implicitDefEqProofs := false) (disch := omega) only [↓rI_s, ↓rV_s, ↓rI_e, ↓rV_e, zc_eq, zc_ne, zc_lt, zc_ge, zc_gt, zc_le, zlt_t, zlt_f, zle_t, zle_f, zeq_t, zeq_f, lz, zadd, zsub, zmul, zneg, zb_e0, zb_e1, boo0, boo1, ua_s, ua_n, ua_ua, up_s, u2_s, u2_f, u2_c, u2_u2, Int.natCast_add, Int.zero_add, Int.add_zero, ↓reduceIte, ne_eq, not_true_eq_false, not_false_eq_true, Int.natCast_one, ↓k_X6_clear_0, zp_12_0, zp_12_1, zp_12_2, zp_12_3, zp_12_4]
    generalize hI2 : u2 (u2 (u2 (u2 (u2 I1 12 0 0) 12 1 0) 12 2 0) 12 3 12) 12 4 3 = I2 at ecl
    have f2 : fi [(12, 0), (12, 1), (12, 2), (12, 3), (12, 4)] I1 I2 := by
      rw [← hI2]
      exact ((((fi.refl.f rfl).f rfl).f rfl).f rfl).f rfl
    have hD0 : cD (D0 A) I2 A := by
      refine ⟨fun j hj => ?_, fun c _ _ => rfl⟩
      rw [← hI2]
      have : j = 0 ∨ j = 1 ∨ j = 2 ∨ j = 3 ∨ j = 4 := by omega
      rcases this with rfl | rfl | rfl | rfl | rfl <;> rfl
    have y := c_rmLoop (W := W) (d := d + 1) 601 0 (D0 A) 0 I2 A (by omega) (by omega) (by omega) (x2.fi f2 rfl) hD0 D0_ok
    have er : q_call q_MT (d + 1 + 1) 79 [.ref 12, .ref 3] (zM I1 A W) = q_run qm_X6_readFrom (q_call q_MT (d + 1)) 6 [.ref 12, .ref 3, .int (zI ((0 : Nat) : Int))] [] (zM I2 A W) := by
      rw [cl_X6_readFrom]
      simp (implicitDefEqProofs := false) (disch := omega) only [↓rI_s, ↓rV_s, ↓rI_e, ↓rV_e, zc_eq, zc_ne, zc_lt, zc_ge, zc_gt, zc_le, zlt_t, zlt_f, zle_t, zle_f, zeq_t, zeq_f, lz, zadd, zsub, zmul, zneg, zb_e0, zb_e1, boo0, boo1, ua_s, ua_n, ua_ua, up_s, u2_s, u2_f, u2_c, u2_u2, Int.natCast_add, Int.zero_add, Int.add_zero, ↓reduceIte, ne_eq, not_true_eq_false, not_false_eq_true, Int.natCast_one, ↓k_X6_readFrom_0, ↓mc_12, ↓cV ecl]
      rfl
    have fb : fi rbK I I2 := (x1.wd rfl).tr (f2.wd rfl)
    unfold rmA
    rcases hs : rmS T n 601 0 (D0 A) 0 with ⟨k, p⟩ | ⟨e3, D⟩
    · rw [hs] at y
      obtain ⟨I3, A3, y1, y2, y3, y4, y5⟩ := y
      have ea := c_answer (d := d + 1 + 1) (I := I3) (A := A3) (W := W) (by omega)
      refine ⟨I3, A3, fb.tr (y1.wd rfl), y2, (y1 3 1 rfl).trans ((f2 3 1 rfl).trans x3), y4, ?_⟩
      rw [y5] at er
      simp (implicitDefEqProofs := false) (disch := omega) only [↓rI_s, ↓rV_s, ↓rI_e, ↓rV_e, zc_eq, zc_ne, zc_lt, zc_ge, zc_gt, zc_le, zlt_t, zlt_f, zle_t, zle_f, zeq_t, zeq_f, lz, zadd, zsub, zmul, zneg, zb_e0, zb_e1, boo0, boo1, ua_s, ua_n, ua_ua, up_s, u2_s, u2_f, u2_c, u2_u2, Int.natCast_add, Int.zero_add, Int.add_zero, ↓reduceIte, ne_eq, not_true_eq_false, not_false_eq_true, Int.natCast_one, ↓mc_2, ↓cV x5, ↓zg_2_2, ↓zg_2_0, ↓mc_12, ↓cI er, ↓mc_3, ↓cI ea, y3]
    · rw [hs] at y
      obtain ⟨I3, A3, l2, y1, y2, y3, y4, y5, y6⟩ := y
      have eo := c_allOnFelt (W := W) (d := d + 1) (by omega) y4 y5
      have en : I3 3 2 = n := (y1 3 2 rfl).trans ((f2 3 2 rfl).trans x2.2.2.1)
      show match (if onF D then .inr D else .inl (4, n) : zE zD) with
        | .inl (k, p) => _
        | .inr D => _
      by_cases c : onF D
      · rw [if_pos c]
        rw [zb_t c] at eo
        rw [y6, k_X6_readFrom_56] at er
        have er2 : q_call q_MT (d + 1 + 1) 79 [.ref 12, .ref 3] (zM I1 A W) = some (.inl (some (.int (zI 1))), zM I3 A3 W) := by
          rw [er]
          simp (implicitDefEqProofs := false) (disch := omega) only [↓rI_s, ↓rV_s, ↓rI_e, ↓rV_e, zc_eq, zc_ne, zc_lt, zc_ge, zc_gt, zc_le, zlt_t, zlt_f, zle_t, zle_f, zeq_t, zeq_f, lz, zadd, zsub, zmul, zneg, zb_e0, zb_e1, boo0, boo1, ua_s, ua_n, ua_ua, up_s, u2_s, u2_f, u2_c, u2_u2, Int.natCast_add, Int.zero_add, Int.add_zero, ↓reduceIte, ne_eq, not_true_eq_false, not_false_eq_true, Int.natCast_one, ↓mc_12, ↓cI eo, ↓k_X6_readFrom_75, ↓k_X6_readFrom_80]
        obtain ⟨I4, A4, z1, z2, z3, z4, z5, z6, z7⟩ := c_copyFrom (W := W) (d := d + 1 + 1) (by omega) y4
        have es := c_setPlain (d := d + 1 + 1) (I := I4) (A := A4) (W := W) (by omega)
        obtain ⟨g, hg, ew⟩ := c_wipe (d := d + 1 + 1) (I := u2 I4 19 4 9) (A := ua A4 20 (uc plZ (A4 20) 0 0 9)) (W := W) (by omega)
        obtain ⟨A5, v1, v2, v3⟩ := c_begin (d := d + 1 + 1) (I := u2 (u2 I4 19 4 9) 36 6 0) (A := ua (ua A4 20 (uc plZ (A4 20) 0 0 9)) 37 g) (W := W) (by omega) y5 c (z3 0 (by decide)) (z3 1 (by decide)) z4 (fun j j0 j1 => (z5 j j0 j1).2.2)
        have fA : fr roL A A5 := ((y2.wd rfl).tr ((z2.wd rfl).tr ((fr.refl.a rfl).a rfl))).tr (v1.wd rfl)
        have fJ : fi roK I (u2 (u2 (u2 (u2 (u2 (u2 I4 19 4 9) 36 6 0) 24 7 0) 24 8 0) 2 14 0) 2 15 0) := ((((((((fb.tr (y1.wd rfl)).wd rfl).tr (z1.wd rfl)).f rfl).f rfl).f rfl).f rfl).f rfl).f rfl
        generalize hI6 : u2 (u2 (u2 (u2 (u2 (u2 I4 19 4 9) 36 6 0) 24 7 0) 24 8 0) 2 14 0) 2 15 0 = I6 at fJ
        have i6 : fi [(19, 4), (36, 6), (24, 7), (24, 8), (2, 14), (2, 15)] I4 I6 := by
          rw [← hI6]
          exact (((((fi.refl.f rfl).f rfl).f rfl).f rfl).f rfl).f rfl
        have k5 : ∀ j : Nat, j < 5 → I6 5 j = D.1 j := fun j hj => (i6 5 j rfl).trans (z3 j hj)
        obtain ⟨k0, k1, k2, k3, k4, kk⟩ := y5
        have eH : (rH (Rn D) : Int) = D.1 0 := Int.toNat_of_nonneg k0.1
        have eW : (rW (Rn D) : Int) = D.1 1 := Int.toNat_of_nonneg k1.1
        have eC : (rC (Rn D) : Int) = D.1 2 := Int.toNat_of_nonneg k2.1
        have y5 : dOK D := ⟨k0, k1, k2, k3, k4, kk⟩
        have a7 : A5 7 = A4 7 := v1 7 rfl
        have a8 : A5 8 = A4 8 := v1 8 rfl
        have a10 : A5 10 = A4 10 := v1 10 rfl
        have a11 : A5 11 = A4 11 := v1 11 rfl
        have a20 : A5 20 = uc plZ (A4 20) 0 0 9 := v1 20 rfl
        have a37 : A5 37 = g := v1 37 rfl
        refine ⟨I6, A5, fJ, fA, ?_, ?_, ?_, ?_, ?_, fun p p0 p1 => ?_, y5, c, ⟨⟨Rn_w y5 c, ?_, ?_, ?_, ?_, ?_, ?_, ?_, ?_, ?_⟩, ?_, sNw_N y5 c, plZ, 9, ?_, ?_, plZ_ok, plF_e⟩, ?_⟩
        · exact (i6 3 1 rfl).trans ((z1 3 1 rfl).trans ((y1 3 1 rfl).trans ((f2 3 1 rfl).trans x3)))
        · exact (i6 3 7 rfl).trans ((z1 3 7 rfl).trans (y3.trans ((f2 3 7 rfl).trans x4)))
        · rw [← hI6, u2_f (by decide), u2_s]
        · rw [← hI6, u2_s]
        · rw [← hI6, u2_c (by decide), u2_c (by decide), u2_c (by decide), u2_c (by decide), u2_s]
        · rw [a37]; exact hg p (by omega) (by omega)
        · rw [k5 0 (by decide), eH]
        · rw [k5 1 (by decide), eW]
        · rw [k5 2 (by decide), eC]
        · exact k5 3 (by decide)
        · exact k5 4 (by decide)
        · intro w w0 w1; rw [a7]; exact (z5 w w0 (by omega)).1
        · intro w w0 w1; rw [a8]; exact (z5 w w0 (by omega)).2.1
        · intro w w0 w1; rw [a10]; exact (z6 w w0 (by omega)).1
        · intro w w0 w1; rw [a11]; exact (z6 w w0 (by omega)).2
        · rw [← hI6]; exact v2
        · rw [← hI6, u2_c (by decide), u2_c (by decide), u2_c (by decide), u2_c (by decide), u2_c (by decide), u2_s]; rfl
        · intro k q0 q1
          have q1 : k < 9 := q1
          rw [a20, uc_in (by omega) (by omega), show 0 + (k - 0) = k by omega]
        · have w1 := z3 1 (by decide)
          have p14 : ∀ {J : Nat → Nat → Int} {B : Nat → Int → Int} {V : qWt} {k : qH → qR}, q_pV (zM J B V) (.ref 2) 10 13 .null k = k (zM J B (.null, V.2)) := fun {J B V k} => rfl
          simp (implicitDefEqProofs := false) (disch := omega) only [↓rI_s, ↓rV_s, ↓rI_e, ↓rV_e, zc_eq, zc_ne, zc_lt, zc_ge, zc_gt, zc_le, zlt_t, zlt_f, zle_t, zle_f, zeq_t, zeq_f, lz, zadd, zsub, zmul, zneg, zb_e0, zb_e1, boo0, boo1, ua_s, ua_n, ua_ua, up_s, u2_s, u2_f, u2_c, u2_u2, Int.natCast_add, Int.zero_add, Int.add_zero, ↓reduceIte, ne_eq, not_true_eq_false, not_false_eq_true, Int.natCast_one, ↓mc_2, ↓cV x5, ↓zg_2_2, ↓zg_2_0, ↓mc_12, ↓cI er2, ↓zg_2_1, ↓mc_5, ↓cV z7, ↓zg_2_3, ↓mc_19, ↓cV es, ↓zg_2_4, ↓mc_36, ↓cV ew, ↓zg_2_6, ↓mc_24, ↓cV v3, ↓p14, ↓zp_2_14, ↓zp_2_15, hI6, ↓zg_5_1, w1]
      · rw [if_neg c]
        rw [zb_f c] at eo
        have ef := c_fail (I := I3) (A := A3) (W := W) (d := d + 1) (k := 4) (p := n) (by omega)
        rw [y6, k_X6_readFrom_56] at er
        have er2 : q_call q_MT (d + 1 + 1) 79 [.ref 12, .ref 3] (zM I1 A W) = some (.inl (some (.int (zI 0))), zM (u2 (u2 I3 3 6 4) 3 7 n) A3 W) := by
          rw [er]
          simp (implicitDefEqProofs := false) (disch := omega) only [↓rI_s, ↓rV_s, ↓rI_e, ↓rV_e, zc_eq, zc_ne, zc_lt, zc_ge, zc_gt, zc_le, zlt_t, zlt_f, zle_t, zle_f, zeq_t, zeq_f, lz, zadd, zsub, zmul, zneg, zb_e0, zb_e1, boo0, boo1, ua_s, ua_n, ua_ua, up_s, u2_s, u2_f, u2_c, u2_u2, Int.natCast_add, Int.zero_add, Int.add_zero, ↓reduceIte, ne_eq, not_true_eq_false, not_false_eq_true, Int.natCast_one, ↓mc_12, ↓cI eo, ↓zg_3_2, en, ↓mc_3, ↓cI ef, ↓k_X6_readFrom_80]
        have ea := c_answer (d := d + 1 + 1) (I := u2 (u2 I3 3 6 4) 3 7 n) (A := A3) (W := W) (by omega)
        rw [show u2 (u2 I3 3 6 4) 3 7 n 3 6 = 4 from rfl] at ea
        refine ⟨u2 (u2 I3 3 6 4) 3 7 n, A3, ((fb.tr (y1.wd rfl)).f rfl).f rfl, y2, ?_, u2_s, ?_⟩
        · rw [u2_f (by decide), u2_f (by decide)]
          exact (y1 3 1 rfl).trans ((f2 3 1 rfl).trans x3)
        · simp (implicitDefEqProofs := false) (disch := omega) only [↓rI_s, ↓rV_s, ↓rI_e, ↓rV_e, zc_eq, zc_ne, zc_lt, zc_ge, zc_gt, zc_le, zlt_t, zlt_f, zle_t, zle_f, zeq_t, zeq_f, lz, zadd, zsub, zmul, zneg, zb_e0, zb_e1, boo0, boo1, ua_s, ua_n, ua_ua, up_s, u2_s, u2_f, u2_c, u2_u2, Int.natCast_add, Int.zero_add, Int.add_zero, ↓reduceIte, ne_eq, not_true_eq_false, not_false_eq_true, Int.natCast_one, ↓mc_2, ↓cV x5, ↓zg_2_2, ↓zg_2_0, ↓mc_12, ↓cI er2, ↓mc_3, ↓cI ea]
  · rename_i q
    have e := c_openText_f (W := W) (d := d + 1) (m := 600) (by omega) h (fun r => q ⟨r.1, r.2.2⟩) (by omega) hn
    simp (implicitDefEqProofs := false) (disch := omega) only [↓rI_s, ↓rV_s, ↓rI_e, ↓rV_e, zc_eq, zc_ne, zc_lt, zc_ge, zc_gt, zc_le, zlt_t, zlt_f, zle_t, zle_f, zeq_t, zeq_f, lz, zadd, zsub, zmul, zneg, zb_e0, zb_e1, boo0, boo1, ua_s, ua_n, ua_ua, up_s, u2_s, u2_f, u2_c, u2_u2, Int.natCast_add, Int.zero_add, Int.add_zero, ↓reduceIte, ne_eq, not_true_eq_false, not_false_eq_true, Int.natCast_one, ↓mc_2, e, t0_1]
end RF
