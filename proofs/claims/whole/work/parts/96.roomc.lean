--DEPS 95.room
abbrev dK : List (Nat × Nat) := [(3, 3), (3, 4), (3, 5), (3, 6), (3, 7), (12, 0), (12, 1), (12, 2), (12, 3), (12, 4)]
abbrev dL : List Nat := [13, 14, 15, 16, 17, 18]
def cD (D : zD) (I : Nat → Nat → Int) (A : Nat → Int → Int) : Prop := (∀ j : Nat, j < 5 → I 12 j = D.1 j) ∧ ∀ c : Nat, 13 ≤ c → c ≤ 18 → A c = D.2 c
section RC
variable {d : Nat} {I I' : Nat → Nat → Int} {A : Nat → Int → Int} {W : qWt} {T : Int → Int} {n a : Int} {D : zD}
theorem cD.k (h : cD D I A) (f : fi xK I I') : cD D I' A := ⟨fun j hj => (f 12 j rfl).trans (h.1 j hj), h.2⟩
theorem cD.i {f : Nat} {v : Int} (h : cD D I A) : cD (uj D.1 f v, D.2) (u2 I 12 f v) A := by
  refine ⟨fun j hj => ?_, h.2⟩
  dsimp only
  unfold u2 uj
  rw [if_pos rfl]
  split
  · rfl
  · exact h.1 j hj
theorem cD.ar {c : Nat} {g : Int → Int} (h : cD D I A) : cD (D.1, ua D.2 c g) I (ua A c g) := by
  refine ⟨h.1, fun c' h0 h1 => ?_⟩
  dsimp only
  unfold ua
  split
  · rfl
  · exact h.2 c' h0 h1
theorem c_readHouse (hd : 3 ≤ d) (h : cTx T n a I A) (hD : cD D I A) (hk : dOK D) (h5 : D.1 0 < 5) : cE T n dK dL I A W (q_call q_MT d 81 [.ref 12, .ref 3] (zM I A W)) cD (rHo T n D a) := by
  obtain ⟨d, rfl⟩ : ∃ e, d = e + 1 := ⟨d - 1, by omega⟩
  have e1 := c_number (lo := 0) (hi := 999) (W := W) (show 2 ≤ d by omega) h (by omega) (by omega)
  have k0 := hk.1
  unfold rHo
  rcases hq : numS T n 0 999 a with ⟨k, p⟩ | ⟨e, v⟩
  · rw [hq] at e1
    obtain ⟨I1, x1, x2, x3, x4⟩ := e1
    refine cE.bad I1 A (x1.wd rfl) fr.refl x2 x3 ?_
    rw [cl_X6_readHouse]
    simp (implicitDefEqProofs := false) (disch := omega) only [↓rI_s, ↓rV_s, ↓rI_e, ↓rV_e, zc_eq, zc_ne, zc_lt, zc_ge, zc_gt, zc_le, zlt_t, zlt_f, zle_t, zle_f, zeq_t, zeq_f, lz, zadd, zsub, zmul, zneg, zb_e0, zb_e1, boo0, boo1, ua_s, ua_n, ua_ua, up_s, u2_s, u2_f, u2_c, u2_u2, Int.natCast_add, Int.zero_add, Int.add_zero, ↓reduceIte, ne_eq, not_true_eq_false, not_false_eq_true, Int.natCast_one, ↓k_X6_readHouse_0, ↓mc_3, x4]
  · rw [hq] at e1
    obtain ⟨I1, x1, x2, x3, x4, x5, x6, x7⟩ := e1
    have hD1 := hD.k x1
    have j0 := hD1.1 0 (by decide)
    have g13 := hD1.2 13 (by decide) (by decide)
    refine cE.ok (u2 I1 12 0 (D.1 0 + 1)) (ua A 13 (up (D.2 13) (D.1 0) v)) ((x1.wd rfl).f rfl) (fr.refl.a rfl) ((x2.fr (L := [13]) (fr.refl.a rfl) rfl).fi (K := [(12, 0)]) (fi.refl.f rfl) rfl) ((u2_c (by decide)).trans x6) (hD1.ar.i) ?_
    rw [cl_X6_readHouse]
    simp (implicitDefEqProofs := false) (disch := omega) only [↓rI_s, ↓rV_s, ↓rI_e, ↓rV_e, zc_eq, zc_ne, zc_lt, zc_ge, zc_gt, zc_le, zlt_t, zlt_f, zle_t, zle_f, zeq_t, zeq_f, lz, zadd, zsub, zmul, zneg, zb_e0, zb_e1, boo0, boo1, ua_s, ua_n, ua_ua, up_s, u2_s, u2_f, u2_c, u2_u2, Int.natCast_add, Int.zero_add, Int.add_zero, ↓reduceIte, ne_eq, not_true_eq_false, not_false_eq_true, Int.natCast_one, ↓k_X6_readHouse_0, ↓mc_3, x7, ↓zg_12_5, ↓zg_12_0, j0, ↓zg_3_5, x4, zs_13, g13, ↓zp_12_0]
theorem c_readFelt (hd : 3 ≤ d) (h : cTx T n a I A) (hD : cD D I A) : cE T n dK dL I A W (q_call q_MT d 82 [.ref 12, .ref 3] (zM I A W)) cD (rFe T n D a) := by
  obtain ⟨d, rfl⟩ : ∃ e, d = e + 1 := ⟨d - 1, by omega⟩
  have e1 := c_number (lo := 4) (hi := 30) (W := W) (show 2 ≤ d by omega) h (by omega) (by omega)
  unfold rFe
  rcases hq : numS T n 4 30 a with ⟨k, p⟩ | ⟨e, v⟩
  · rw [hq] at e1
    obtain ⟨I1, x1, x2, x3, x4⟩ := e1
    refine cE.bad I1 A (x1.wd rfl) fr.refl x2 x3 ?_
    rw [cl_X6_readFelt]
    simp (implicitDefEqProofs := false) (disch := omega) only [↓rI_s, ↓rV_s, ↓rI_e, ↓rV_e, zc_eq, zc_ne, zc_lt, zc_ge, zc_gt, zc_le, zlt_t, zlt_f, zle_t, zle_f, zeq_t, zeq_f, lz, zadd, zsub, zmul, zneg, zb_e0, zb_e1, boo0, boo1, ua_s, ua_n, ua_ua, up_s, u2_s, u2_f, u2_c, u2_u2, Int.natCast_add, Int.zero_add, Int.add_zero, ↓reduceIte, ne_eq, not_true_eq_false, not_false_eq_true, Int.natCast_one, ↓k_X6_readFelt_0, ↓mc_3, x4]
  · rw [hq] at e1
    obtain ⟨I1, x1, x2, x3, x4, x5, x6, x7⟩ := e1
    have hD1 := hD.k x1
    refine cE.ok (u2 I1 12 3 v) A ((x1.wd rfl).f rfl) fr.refl (x2.fi (K := [(12, 3)]) (fi.refl.f rfl) rfl) ((u2_c (by decide)).trans x6) (hD1.i) ?_
    rw [cl_X6_readFelt]
    simp (implicitDefEqProofs := false) (disch := omega) only [↓rI_s, ↓rV_s, ↓rI_e, ↓rV_e, zc_eq, zc_ne, zc_lt, zc_ge, zc_gt, zc_le, zlt_t, zlt_f, zle_t, zle_f, zeq_t, zeq_f, lz, zadd, zsub, zmul, zneg, zb_e0, zb_e1, boo0, boo1, ua_s, ua_n, ua_ua, up_s, u2_s, u2_f, u2_c, u2_u2, Int.natCast_add, Int.zero_add, Int.add_zero, ↓reduceIte, ne_eq, not_true_eq_false, not_false_eq_true, Int.natCast_one, ↓k_X6_readFelt_0, ↓mc_3, x7, ↓zg_3_5, x4, ↓zp_12_3]
theorem c_readNap (hd : 3 ≤ d) (h : cTx T n a I A) (hD : cD D I A) : cE T n dK dL I A W (q_call q_MT d 83 [.ref 12, .ref 3] (zM I A W)) cD (rNa T n D a) := by
  obtain ⟨d, rfl⟩ : ∃ e, d = e + 1 := ⟨d - 1, by omega⟩
  have e1 := c_number (lo := 0) (hi := 9) (W := W) (show 2 ≤ d by omega) h (by omega) (by omega)
  unfold rNa
  rcases hq : numS T n 0 9 a with ⟨k, p⟩ | ⟨e, v⟩
  · rw [hq] at e1
    obtain ⟨I1, x1, x2, x3, x4⟩ := e1
    refine cE.bad I1 A (x1.wd rfl) fr.refl x2 x3 ?_
    rw [cl_X6_readNap]
    simp (implicitDefEqProofs := false) (disch := omega) only [↓rI_s, ↓rV_s, ↓rI_e, ↓rV_e, zc_eq, zc_ne, zc_lt, zc_ge, zc_gt, zc_le, zlt_t, zlt_f, zle_t, zle_f, zeq_t, zeq_f, lz, zadd, zsub, zmul, zneg, zb_e0, zb_e1, boo0, boo1, ua_s, ua_n, ua_ua, up_s, u2_s, u2_f, u2_c, u2_u2, Int.natCast_add, Int.zero_add, Int.add_zero, ↓reduceIte, ne_eq, not_true_eq_false, not_false_eq_true, Int.natCast_one, ↓k_X6_readNap_0, ↓mc_3, x4]
  · rw [hq] at e1
    obtain ⟨I1, x1, x2, x3, x4, x5, x6, x7⟩ := e1
    have hD1 := hD.k x1
    refine cE.ok (u2 I1 12 4 v) A ((x1.wd rfl).f rfl) fr.refl (x2.fi (K := [(12, 4)]) (fi.refl.f rfl) rfl) ((u2_c (by decide)).trans x6) (hD1.i) ?_
    rw [cl_X6_readNap]
    simp (implicitDefEqProofs := false) (disch := omega) only [↓rI_s, ↓rV_s, ↓rI_e, ↓rV_e, zc_eq, zc_ne, zc_lt, zc_ge, zc_gt, zc_le, zlt_t, zlt_f, zle_t, zle_f, zeq_t, zeq_f, lz, zadd, zsub, zmul, zneg, zb_e0, zb_e1, boo0, boo1, ua_s, ua_n, ua_ua, up_s, u2_s, u2_f, u2_c, u2_u2, Int.natCast_add, Int.zero_add, Int.add_zero, ↓reduceIte, ne_eq, not_true_eq_false, not_false_eq_true, Int.natCast_one, ↓k_X6_readNap_0, ↓mc_3, x7, ↓zg_3_5, x4, ↓zp_12_4]
theorem c_readWink (hd : 3 ≤ d) (h : cTx T n a I A) (hD : cD D I A) (hk : dOK D) (h5 : D.1 1 < 10) : cE T n dK dL I A W (q_call q_MT d 84 [.ref 12, .ref 3] (zM I A W)) cD (rWi T n D a) := by
  obtain ⟨d, rfl⟩ : ∃ e, d = e + 1 := ⟨d - 1, by omega⟩
  have k0 := hk.1
  have k1 := hk.2.1
  have j0 := hD.1 0 (by decide)
  have e1 := c_number (lo := 0) (hi := D.1 0 - 1) (W := W) (show 2 ≤ d by omega) h (by omega) (by omega)
  unfold rWi
  rcases hq : numS T n 0 (D.1 0 - 1) a with ⟨k, p⟩ | ⟨e, v⟩
  · rw [hq] at e1
    obtain ⟨I1, x1, x2, x3, x4⟩ := e1
    refine cE.bad I1 A (x1.wd rfl) fr.refl x2 x3 ?_
    rw [cl_X6_readWink]
    simp (implicitDefEqProofs := false) (disch := omega) only [↓rI_s, ↓rV_s, ↓rI_e, ↓rV_e, zc_eq, zc_ne, zc_lt, zc_ge, zc_gt, zc_le, zlt_t, zlt_f, zle_t, zle_f, zeq_t, zeq_f, lz, zadd, zsub, zmul, zneg, zb_e0, zb_e1, boo0, boo1, ua_s, ua_n, ua_ua, up_s, u2_s, u2_f, u2_c, u2_u2, Int.natCast_add, Int.zero_add, Int.add_zero, ↓reduceIte, ne_eq, not_true_eq_false, not_false_eq_true, Int.natCast_one, ↓k_X6_readWink_0, ↓zg_12_0, j0, ↓mc_3, x4]
  · rw [hq] at e1
    obtain ⟨I1, x1, x2, x3, x4, x5, x6, x7⟩ := e1
    have hD1 := hD.k x1
    have j1 := hD1.1 1 (by decide)
    have g14 := hD1.2 14 (by decide) (by decide)
    have hD1' := hD1.ar (c := 14) (g := up (D.2 14) (D.1 1) v)
    have x2' := x2.fr (L := [14]) (A' := ua A 14 (up (D.2 14) (D.1 1) v)) (fr.refl.a rfl) rfl
    have e2 := c_number (lo := 1) (hi := 9) (W := W) (show 2 ≤ d by omega) x2' (by omega) (by omega)
    show cE _ _ _ _ _ _ _ _ _ (bd (numS T n 1 9 e) fun y => bd (numS T n 0 29 y.1) fun z => .inr (z.1, uj D.1 1 (D.1 1 + 1), ua (ua (ua D.2 14 (up (D.2 14) (D.1 1) v)) 15 (up (D.2 15) (D.1 1) y.2)) 16 (up (D.2 16) (D.1 1) z.2)))
    rcases hq2 : numS T n 1 9 e with ⟨k, p⟩ | ⟨e', u⟩
    · rw [hq2] at e2
      obtain ⟨I2, y1, y2, y3, y4⟩ := e2
      refine cE.bad I2 (ua A 14 (up (D.2 14) (D.1 1) v)) ((x1.tr y1).wd rfl) (fr.refl.a rfl) y2 y3 ?_
      rw [cl_X6_readWink]
      simp (implicitDefEqProofs := false) (disch := omega) only [↓rI_s, ↓rV_s, ↓rI_e, ↓rV_e, zc_eq, zc_ne, zc_lt, zc_ge, zc_gt, zc_le, zlt_t, zlt_f, zle_t, zle_f, zeq_t, zeq_f, lz, zadd, zsub, zmul, zneg, zb_e0, zb_e1, boo0, boo1, ua_s, ua_n, ua_ua, up_s, u2_s, u2_f, u2_c, u2_u2, Int.natCast_add, Int.zero_add, Int.add_zero, ↓reduceIte, ne_eq, not_true_eq_false, not_false_eq_true, Int.natCast_one, ↓k_X6_readWink_0, ↓zg_12_0, j0, ↓mc_3, x7, ↓zg_12_6, ↓zg_12_1, j1, ↓zg_3_5, x4, zs_14, g14, y4]
    · rw [hq2] at e2
      obtain ⟨I2, y1, y2, y3, y4, y5, y6, y7⟩ := e2
      have hD2 := hD1'.k y1
      have j1' := hD2.1 1 (by decide)
      have g15 := hD1.2 15 (by decide) (by decide)
      have hD2' := hD2.ar (c := 15) (g := up (D.2 15) (D.1 1) u)
      have y2' := y2.fr (L := [15]) (A' := ua (ua A 14 (up (D.2 14) (D.1 1) v)) 15 (up (D.2 15) (D.1 1) u)) (fr.refl.a rfl) rfl
      have e3 := c_number (lo := 0) (hi := 29) (W := W) (show 2 ≤ d by omega) y2' (by omega) (by omega)
      show cE _ _ _ _ _ _ _ _ _ (bd (numS T n 0 29 e') fun z => .inr (z.1, uj D.1 1 (D.1 1 + 1), ua (ua (ua D.2 14 (up (D.2 14) (D.1 1) v)) 15 (up (D.2 15) (D.1 1) u)) 16 (up (D.2 16) (D.1 1) z.2)))
      rcases hq3 : numS T n 0 29 e' with ⟨k, p⟩ | ⟨e'', t⟩
      · rw [hq3] at e3
        obtain ⟨I3, z1, z2, z3, z4⟩ := e3
        refine cE.bad I3 (ua (ua A 14 (up (D.2 14) (D.1 1) v)) 15 (up (D.2 15) (D.1 1) u)) (((x1.tr y1).tr z1).wd rfl) ((fr.refl.a rfl).a rfl) z2 z3 ?_
        rw [cl_X6_readWink]
        simp (implicitDefEqProofs := false) (disch := omega) only [↓rI_s, ↓rV_s, ↓rI_e, ↓rV_e, zc_eq, zc_ne, zc_lt, zc_ge, zc_gt, zc_le, zlt_t, zlt_f, zle_t, zle_f, zeq_t, zeq_f, lz, zadd, zsub, zmul, zneg, zb_e0, zb_e1, boo0, boo1, ua_s, ua_n, ua_ua, up_s, u2_s, u2_f, u2_c, u2_u2, Int.natCast_add, Int.zero_add, Int.add_zero, ↓reduceIte, ne_eq, not_true_eq_false, not_false_eq_true, Int.natCast_one, ↓k_X6_readWink_0, ↓zg_12_0, j0, ↓mc_3, x7, ↓zg_12_6, ↓zg_12_1, j1, ↓zg_3_5, x4, zs_14, g14, y7, ↓zg_12_7, j1', y4, zs_15, g15, z4]
      · rw [hq3] at e3
        obtain ⟨I3, z1, z2, z3, z4, z5, z6, z7⟩ := e3
        have hD3 := hD2'.k z1
        have j1'' := hD3.1 1 (by decide)
        have g16 := hD1.2 16 (by decide) (by decide)
        have hD3' := hD3.ar (c := 16) (g := up (D.2 16) (D.1 1) t)
        refine cE.ok (u2 I3 12 1 (D.1 1 + 1)) (ua (ua (ua A 14 (up (D.2 14) (D.1 1) v)) 15 (up (D.2 15) (D.1 1) u)) 16 (up (D.2 16) (D.1 1) t)) ((((x1.tr y1).tr z1).wd rfl).f rfl) (((fr.refl.a rfl).a rfl).a rfl) ((z2.fr (L := [16]) (fr.refl.a rfl) rfl).fi (K := [(12, 1)]) (fi.refl.f rfl) rfl) ((u2_c (by decide)).trans (z6.trans (y6.trans x6))) (hD3'.i) ?_
        rw [cl_X6_readWink]
        simp (implicitDefEqProofs := false) (disch := omega) only [↓rI_s, ↓rV_s, ↓rI_e, ↓rV_e, zc_eq, zc_ne, zc_lt, zc_ge, zc_gt, zc_le, zlt_t, zlt_f, zle_t, zle_f, zeq_t, zeq_f, lz, zadd, zsub, zmul, zneg, zb_e0, zb_e1, boo0, boo1, ua_s, ua_n, ua_ua, up_s, u2_s, u2_f, u2_c, u2_u2, Int.natCast_add, Int.zero_add, Int.add_zero, ↓reduceIte, ne_eq, not_true_eq_false, not_false_eq_true, Int.natCast_one, ↓k_X6_readWink_0, ↓zg_12_0, j0, ↓mc_3, x7, ↓zg_12_6, ↓zg_12_1, j1, ↓zg_3_5, x4, zs_14, g14, y7, ↓zg_12_7, j1', y4, zs_15, g15, z7, ↓zg_12_8, j1'', z4, zs_16, g16, ↓k_X6_readWink_79, ↓zp_12_1]
theorem c_cupAt12 {x : Int} (hd : 1 ≤ d) (hD : cD D I A) (hk : dOK D) (h0 : 0 ≤ x ∧ x ≤ 1000) : q_call q_MT d 78 [.ref 12, .int (zI x)] (zM I A W) = some (.inl (some (.int (zI (fst (D.1 2).toNat fun c => decide (D.2 17 c = x))))), zM I A W) := by
  obtain ⟨d, rfl⟩ : ∃ e, d = e + 1 := ⟨d - 1, by omega⟩
  have k2 := hk.2.2.1
  have hn := hD.1 2 (by decide)
  have g17 := hD.2 17 (by decide) (by decide)
  obtain ⟨N, hN⟩ := Int.eq_ofNat_of_zero_le k2.1
  rw [hN] at hn k2
  rw [cl_X6_cupAt, hN, Int.toNat_natCast]
  simp (implicitDefEqProofs := false) (disch := omega) only [↓rI_s, ↓rV_s, ↓rI_e, ↓rV_e, zc_eq, zc_ne, zc_lt, zc_ge, zc_gt, zc_le, zlt_t, zlt_f, zle_t, zle_f, zeq_t, zeq_f, lz, zadd, zsub, zmul, zneg, zb_e0, zb_e1, boo0, boo1, ua_s, ua_n, ua_ua, up_s, u2_s, u2_f, u2_c, u2_u2, Int.natCast_add, Int.zero_add, Int.add_zero, ↓reduceIte, ne_eq, not_true_eq_false, not_false_eq_true, Int.natCast_one, ↓k_X6_cupAt_0]
  refine lp_x (fun j (a : Unit) => q_run qm_X6_cupAt (q_call q_MT d) 2 [.ref 12, .int (zI x), .int (zI j)] [] (zM I A W)) (fun j a => ∀ i : Nat, i < j → ¬ decide (D.2 17 i = x) = true) (fun r => r = _) N ?_ ?_ 0 () (by omega) (fun i hi => absurd hi (by omega))
  · intro a ha
    rw [k_X6_cupAt_2]
    simp (implicitDefEqProofs := false) (disch := omega) only [↓rI_s, ↓rV_s, ↓rI_e, ↓rV_e, zc_eq, zc_ne, zc_lt, zc_ge, zc_gt, zc_le, zlt_t, zlt_f, zle_t, zle_f, zeq_t, zeq_f, lz, zadd, zsub, zmul, zneg, zb_e0, zb_e1, boo0, boo1, ua_s, ua_n, ua_ua, up_s, u2_s, u2_f, u2_c, u2_u2, Int.natCast_add, Int.zero_add, Int.add_zero, ↓reduceIte, ne_eq, not_true_eq_false, not_false_eq_true, Int.natCast_one, ↓zg_12_2, hn, Int.le_refl]
    rw [fst_no ha]
  · intro j a hj ha
    have hb := (hk.2.2.2.2.2.2.2 j (by omega) (by omega)).1
    rw [k_X6_cupAt_2]
    by_cases h : D.2 17 j = x
    · refine .inl ?_
      simp (implicitDefEqProofs := false) (disch := omega) only [↓rI_s, ↓rV_s, ↓rI_e, ↓rV_e, zc_eq, zc_ne, zc_lt, zc_ge, zc_gt, zc_le, zlt_t, zlt_f, zle_t, zle_f, zeq_t, zeq_f, lz, zadd, zsub, zmul, zneg, zb_e0, zb_e1, boo0, boo1, ua_s, ua_n, ua_ua, up_s, u2_s, u2_f, u2_c, u2_u2, Int.natCast_add, Int.zero_add, Int.add_zero, ↓reduceIte, ne_eq, not_true_eq_false, not_false_eq_true, Int.natCast_one, ↓zg_12_2, hn, ↓zg_12_9, zl_17, g17, h]
      rw [fst_at hj ha (decide_eq_true h)]
    · refine .inr ⟨(), fun i hi => ?_, ?_⟩
      · by_cases e : i = j
        · subst e; simpa using h
        · exact ha i (by omega)
      · simp (implicitDefEqProofs := false) (disch := omega) only [↓rI_s, ↓rV_s, ↓rI_e, ↓rV_e, zc_eq, zc_ne, zc_lt, zc_ge, zc_gt, zc_le, zlt_t, zlt_f, zle_t, zle_f, zeq_t, zeq_f, lz, zadd, zsub, zmul, zneg, zb_e0, zb_e1, boo0, boo1, ua_s, ua_n, ua_ua, up_s, u2_s, u2_f, u2_c, u2_u2, Int.natCast_add, Int.zero_add, Int.add_zero, ↓reduceIte, ne_eq, not_true_eq_false, not_false_eq_true, Int.natCast_one, ↓zg_12_2, hn, ↓zg_12_9, zl_17, g17]
theorem c_readCup (hd : 3 ≤ d) (h : cTx T n a I A) (hD : cD D I A) (hk : dOK D) (h5 : D.1 2 < 4) : cE T n dK dL I A W (q_call q_MT d 85 [.ref 12, .ref 3] (zM I A W)) cD (rCu T n D a) := by
  obtain ⟨d, rfl⟩ : ∃ e, d = e + 1 := ⟨d - 1, by omega⟩
  have k2 := hk.2.2.1
  have e1 := c_number (lo := 0) (hi := 29) (W := W) (show 2 ≤ d by omega) h (by omega) (by omega)
  unfold rCu
  rcases hq : numS T n 0 29 a with ⟨k, p⟩ | ⟨e, v⟩
  · rw [hq] at e1
    obtain ⟨I1, x1, x2, x3, x4⟩ := e1
    refine cE.bad I1 A (x1.wd rfl) fr.refl x2 x3 ?_
    rw [cl_X6_readCup]
    simp (implicitDefEqProofs := false) (disch := omega) only [↓rI_s, ↓rV_s, ↓rI_e, ↓rV_e, zc_eq, zc_ne, zc_lt, zc_ge, zc_gt, zc_le, zlt_t, zlt_f, zle_t, zle_f, zeq_t, zeq_f, lz, zadd, zsub, zmul, zneg, zb_e0, zb_e1, boo0, boo1, ua_s, ua_n, ua_ua, up_s, u2_s, u2_f, u2_c, u2_u2, Int.natCast_add, Int.zero_add, Int.add_zero, ↓reduceIte, ne_eq, not_true_eq_false, not_false_eq_true, Int.natCast_one, ↓k_X6_readCup_0, ↓mc_3, x4]
  · rw [hq] at e1
    have r1 := numS_r h.2.2.2.2.2.1 hq
    obtain ⟨I1, x1, x2, x3, x4, x5, x6, x7⟩ := e1
    have hD1 := hD.k x1
    have j2 := hD1.1 2 (by decide)
    have g17 := hD1.2 17 (by decide) (by decide)
    have ec := c_cupAt12 (W := W) (d := d) (x := v) (by omega) hD1 hk (by omega)
    show cE _ _ _ _ _ _ _ _ _ (if fst (D.1 2).toNat (fun c => decide (D.2 17 c = v)) = -1 then bd (numS T n 1 99 e) fun y => .inr (y.1, uj D.1 2 (D.1 2 + 1), ua (ua D.2 17 (up (D.2 17) (D.1 2) v)) 18 (up (D.2 18) (D.1 2) y.2)) else .inl (2, sk T n a))
    have fl := fst_lo (D.1 2).toNat (fun c => decide (D.2 17 c = v))
    have fh := fst_hi (D.1 2).toNat (fun c => decide (D.2 17 c = v))
    generalize hf : fst (D.1 2).toNat (fun c => decide (D.2 17 c = v)) = f at ec fl fh ⊢
    by_cases c : f = -1
    · rw [if_pos c]
      have hD1' := hD1.ar (c := 17) (g := up (D.2 17) (D.1 2) v)
      have x2' := x2.fr (L := [17]) (A' := ua A 17 (up (D.2 17) (D.1 2) v)) (fr.refl.a rfl) rfl
      have e2 := c_number (lo := 1) (hi := 99) (W := W) (show 2 ≤ d by omega) x2' (by omega) (by omega)
      rcases hq2 : numS T n 1 99 e with ⟨k, p⟩ | ⟨e', u⟩
      · rw [hq2] at e2
        obtain ⟨I2, y1, y2, y3, y4⟩ := e2
        refine cE.bad I2 (ua A 17 (up (D.2 17) (D.1 2) v)) ((x1.tr y1).wd rfl) (fr.refl.a rfl) y2 y3 ?_
        rw [cl_X6_readCup]
        simp (implicitDefEqProofs := false) (disch := omega) only [↓rI_s, ↓rV_s, ↓rI_e, ↓rV_e, zc_eq, zc_ne, zc_lt, zc_ge, zc_gt, zc_le, zlt_t, zlt_f, zle_t, zle_f, zeq_t, zeq_f, lz, zadd, zsub, zmul, zneg, zb_e0, zb_e1, boo0, boo1, ua_s, ua_n, ua_ua, up_s, u2_s, u2_f, u2_c, u2_u2, Int.natCast_add, Int.zero_add, Int.add_zero, ↓reduceIte, ne_eq, not_true_eq_false, not_false_eq_true, Int.natCast_one, ↓k_X6_readCup_0, ↓mc_3, x7, ↓zg_3_5, x4, ↓mc_12, ec, ↓zg_12_9, ↓zg_12_2, j2, zs_17, g17, y4]
      · rw [hq2] at e2
        obtain ⟨I2, y1, y2, y3, y4, y5, y6, y7⟩ := e2
        have hD2 := hD1'.k y1
        have j2' := hD2.1 2 (by decide)
        have g18 := hD1.2 18 (by decide) (by decide)
        have hD2' := hD2.ar (c := 18) (g := up (D.2 18) (D.1 2) u)
        refine cE.ok (u2 I2 12 2 (D.1 2 + 1)) (ua (ua A 17 (up (D.2 17) (D.1 2) v)) 18 (up (D.2 18) (D.1 2) u)) (((x1.tr y1).wd rfl).f rfl) ((fr.refl.a rfl).a rfl) ((y2.fr (L := [18]) (fr.refl.a rfl) rfl).fi (K := [(12, 2)]) (fi.refl.f rfl) rfl) ((u2_c (by decide)).trans (y6.trans x6)) (hD2'.i) ?_
        rw [cl_X6_readCup]
        simp (implicitDefEqProofs := false) (disch := omega) only [↓rI_s, ↓rV_s, ↓rI_e, ↓rV_e, zc_eq, zc_ne, zc_lt, zc_ge, zc_gt, zc_le, zlt_t, zlt_f, zle_t, zle_f, zeq_t, zeq_f, lz, zadd, zsub, zmul, zneg, zb_e0, zb_e1, boo0, boo1, ua_s, ua_n, ua_ua, up_s, u2_s, u2_f, u2_c, u2_u2, Int.natCast_add, Int.zero_add, Int.add_zero, ↓reduceIte, ne_eq, not_true_eq_false, not_false_eq_true, Int.natCast_one, ↓k_X6_readCup_0, ↓mc_3, x7, ↓zg_3_5, x4, ↓mc_12, ec, ↓zg_12_9, ↓zg_12_2, j2, zs_17, g17, y7, ↓zg_12_10, j2', y4, zs_18, g18, ↓zp_12_2, ↓k_X6_readCup_82]
    · rw [if_neg c]
      have ef := c_fail (I := I1) (A := A) (W := W) (d := d) (k := 2) (p := sk T n a) (by omega)
      refine cE.bad (u2 (u2 I1 3 6 2) 3 7 (sk T n a)) A (((x1.f rfl).f rfl).wd rfl) fr.refl (by rw [u2_f (by decide), u2_s]) u2_s ?_
      rw [cl_X6_readCup]
      simp (implicitDefEqProofs := false) (disch := omega) only [↓rI_s, ↓rV_s, ↓rI_e, ↓rV_e, zc_eq, zc_ne, zc_lt, zc_ge, zc_gt, zc_le, zlt_t, zlt_f, zle_t, zle_f, zeq_t, zeq_f, lz, zadd, zsub, zmul, zneg, zb_e0, zb_e1, boo0, boo1, ua_s, ua_n, ua_ua, up_s, u2_s, u2_f, u2_c, u2_u2, Int.natCast_add, Int.zero_add, Int.add_zero, ↓reduceIte, ne_eq, not_true_eq_false, not_false_eq_true, Int.natCast_one, ↓k_X6_readCup_0, ↓mc_3, x7, ↓zg_3_5, x4, ↓mc_12, ec, ↓zg_3_4, x3, ef]
end RC
