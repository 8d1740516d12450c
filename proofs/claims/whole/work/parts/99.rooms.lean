--DEPS 98.roome
/-! ROOM: what is set, in the class. -/
def plZ (j : Int) : Int := (q_plain j.toNat).toInt
theorem plZ_a : q_plain = za plZ := by
  funext j
  show q_plain j = zI (q_plain ((j : Int).toNat)).toInt
  rw [Int.toNat_natCast, zI_of]
def plF : zF := fun f => clp (zI (2 * f 0 + f 4 - f 2 - f 3)).toInt
theorem plZ_ok : lawOK plZ 9 := by
  have v0 : plZ ((0 : Nat) : Int) = 1000 := by decide
  have v1 : plZ ((1 : Nat) : Int) = 2 := by decide
  have v2 : plZ ((2 : Nat) : Int) = 2002 := by decide
  have v3 : plZ ((3 : Nat) : Int) = 1004 := by decide
  have v4 : plZ ((4 : Nat) : Int) = 2000 := by decide
  have v5 : plZ ((5 : Nat) : Int) = 1002 := by decide
  have v6 : plZ ((6 : Nat) : Int) = 2001 := by decide
  have v7 : plZ ((7 : Nat) : Int) = 1003 := by decide
  have v8 : plZ ((8 : Nat) : Int) = 2001 := by decide
  have h0 : hgt plZ 0 = 0 := rfl
  have h1 : hgt plZ 1 = 1 := (hgt_f (n := 0) (by rw [v0]; decide)).trans (by rw [h0]; rfl)
  have h2 : hgt plZ 2 = 2 := (hgt_f (n := 1) (by rw [v1]; decide)).trans (by rw [h1]; rfl)
  have h3 : hgt plZ 3 = 1 := (hgt_t (n := 2) (by rw [v2]; decide)).trans (by rw [h2]; rfl)
  have h4 : hgt plZ 4 = 2 := (hgt_f (n := 3) (by rw [v3]; decide)).trans (by rw [h3]; rfl)
  have h5 : hgt plZ 5 = 1 := (hgt_t (n := 4) (by rw [v4]; decide)).trans (by rw [h4]; rfl)
  have h6 : hgt plZ 6 = 2 := (hgt_f (n := 5) (by rw [v5]; decide)).trans (by rw [h5]; rfl)
  have h7 : hgt plZ 7 = 1 := (hgt_t (n := 6) (by rw [v6]; decide)).trans (by rw [h6]; rfl)
  have h8 : hgt plZ 8 = 2 := (hgt_f (n := 7) (by rw [v7]; decide)).trans (by rw [h7]; rfl)
  have h9 : hgt plZ 9 = 1 := (hgt_t (n := 8) (by rw [v8]; decide)).trans (by rw [h8]; rfl)
  refine ⟨by decide, by rw [h9]; decide, fun k hk => ?_⟩
  have : k = 0 ∨ k = 1 ∨ k = 2 ∨ k = 3 ∨ k = 4 ∨ k = 5 ∨ k = 6 ∨ k = 7 ∨ k = 8 := by omega
  rcases this with rfl | rfl | rfl | rfl | rfl | rfl | rfl | rfl | rfl
  · rw [v0, h0]; omega
  · rw [v1, h1]; omega
  · rw [v2, h2]; omega
  · rw [v3, h3]; omega
  · rw [v4, h4]; omega
  · rw [v5, h5]; omega
  · rw [v6, h6]; omega
  · rw [v7, h7]; omega
  · rw [v8, h8]; omega
theorem evg_t {f cs : Int → Int} {n : Nat} (h : 2000 ≤ cs n) : evg f cs (n + 1) = up (evg f cs n) (hgt cs n - 2) (lop (cs n) (evg f cs n (hgt cs n - 2)) (evg f cs n (hgt cs n - 1))) := by
  show (if 2000 ≤ cs n then _ else _) = _
  rw [if_pos h]
theorem evg_f {f cs : Int → Int} {n : Nat} (h : ¬ 2000 ≤ cs n) : evg f cs (n + 1) = up (evg f cs n) (hgt cs n) (if cs n < 1000 then cs n else f (cs n - 1000)) := by
  show (if 2000 ≤ cs n then _ else _) = _
  rw [if_neg h]
theorem plF_e (f : Int → Int) : plF f = evF plZ 9 f := by
  have v0 : plZ ((0 : Nat) : Int) = 1000 := by decide
  have v1 : plZ ((1 : Nat) : Int) = 2 := by decide
  have v2 : plZ ((2 : Nat) : Int) = 2002 := by decide
  have v3 : plZ ((3 : Nat) : Int) = 1004 := by decide
  have v4 : plZ ((4 : Nat) : Int) = 2000 := by decide
  have v5 : plZ ((5 : Nat) : Int) = 1002 := by decide
  have v6 : plZ ((6 : Nat) : Int) = 2001 := by decide
  have v7 : plZ ((7 : Nat) : Int) = 1003 := by decide
  have v8 : plZ ((8 : Nat) : Int) = 2001 := by decide
  have h0 : hgt plZ 0 = 0 := rfl
  have h1 : hgt plZ 1 = 1 := (hgt_f (n := 0) (by rw [v0]; decide)).trans (by rw [h0]; rfl)
  have h2 : hgt plZ 2 = 2 := (hgt_f (n := 1) (by rw [v1]; decide)).trans (by rw [h1]; rfl)
  have h3 : hgt plZ 3 = 1 := (hgt_t (n := 2) (by rw [v2]; decide)).trans (by rw [h2]; rfl)
  have h4 : hgt plZ 4 = 2 := (hgt_f (n := 3) (by rw [v3]; decide)).trans (by rw [h3]; rfl)
  have h5 : hgt plZ 5 = 1 := (hgt_t (n := 4) (by rw [v4]; decide)).trans (by rw [h4]; rfl)
  have h6 : hgt plZ 6 = 2 := (hgt_f (n := 5) (by rw [v5]; decide)).trans (by rw [h5]; rfl)
  have h7 : hgt plZ 7 = 1 := (hgt_t (n := 6) (by rw [v6]; decide)).trans (by rw [h6]; rfl)
  have h8 : hgt plZ 8 = 2 := (hgt_f (n := 7) (by rw [v7]; decide)).trans (by rw [h7]; rfl)
  have E1 : evg f plZ 1 = up (evg f plZ 0) 0 (f 0) := by rw [evg_f (n := 0) (by rw [v0]; decide), v0, h0]; rfl
  have E2 : evg f plZ 2 = up (evg f plZ 1) 1 2 := by rw [evg_f (n := 1) (by rw [v1]; decide), v1, h1]; rfl
  have E3 : evg f plZ 3 = up (evg f plZ 2) 0 (evg f plZ 2 0 * evg f plZ 2 1) := by rw [evg_t (n := 2) (by rw [v2]; decide), v2, h2]; rfl
  have E4 : evg f plZ 4 = up (evg f plZ 3) 1 (f 4) := by rw [evg_f (n := 3) (by rw [v3]; decide), v3, h3]; rfl
  have E5 : evg f plZ 5 = up (evg f plZ 4) 0 (evg f plZ 4 0 + evg f plZ 4 1) := by rw [evg_t (n := 4) (by rw [v4]; decide), v4, h4]; rfl
  have E6 : evg f plZ 6 = up (evg f plZ 5) 1 (f 2) := by rw [evg_f (n := 5) (by rw [v5]; decide), v5, h5]; rfl
  have E7 : evg f plZ 7 = up (evg f plZ 6) 0 (evg f plZ 6 0 - evg f plZ 6 1) := by rw [evg_t (n := 6) (by rw [v6]; decide), v6, h6]; rfl
  have E8 : evg f plZ 8 = up (evg f plZ 7) 1 (f 3) := by rw [evg_f (n := 7) (by rw [v7]; decide), v7, h7]; rfl
  have E9 : evg f plZ 9 = up (evg f plZ 8) 0 (evg f plZ 8 0 - evg f plZ 8 1) := by rw [evg_t (n := 8) (by rw [v8]; decide), v8, h8]; rfl
  have a1 : evg f plZ 2 0 = f 0 := by rw [E2, up_n (by decide), E1, up_s]
  have a2 : evg f plZ 2 1 = 2 := by rw [E2, up_s]
  have a3 : evg f plZ 4 0 = f 0 * 2 := by rw [E4, up_n (by decide), E3, up_s, a1, a2]
  have a4 : evg f plZ 4 1 = f 4 := by rw [E4, up_s]
  have a5 : evg f plZ 6 0 = f 0 * 2 + f 4 := by rw [E6, up_n (by decide), E5, up_s, a3, a4]
  have a6 : evg f plZ 6 1 = f 2 := by rw [E6, up_s]
  have a7 : evg f plZ 8 0 = f 0 * 2 + f 4 - f 2 := by rw [E8, up_n (by decide), E7, up_s, a5, a6]
  have a8 : evg f plZ 8 1 = f 3 := by rw [E8, up_s]
  have a9 : evg f plZ 9 0 = 2 * f 0 + f 4 - f 2 - f 3 := by rw [E9, up_s, a7, a8]; omega
  unfold plF evF
  rw [a9]
section RS
variable {d : Nat} {I : Nat → Nat → Int} {A : Nat → Int → Int} {W : qWt} {T : Int → Int} {n a : Int} {D : zD}
theorem zc_1_20 {k : qH → qR} : q_cpy (zM I A W) (.ref 1) (zI 0) (.ref 20) (zI 0) (zI 9) k = k (zM I (ua A 20 (uc plZ (A 20) 0 0 9)) W) := zx_cp (c := 1) (c' := 20) (n := 9) (n' := 150) (f := plZ) (g := A 20) (by rw [← plZ_a]; rfl) rfl (by decide) (by decide) (by decide) (by decide) rfl (by decide) (by decide) (by decide) (by decide) (by decide)
theorem zn_1 {k : Int32 → qR} : q_len (zM I A W) (.ref 1) k = k (zI 9) := rfl
theorem c_setPlain (hd : 1 ≤ d) : q_call q_MT d 64 [.ref 19] (zM I A W) = some (.inl none, zM (u2 I 19 4 9) (ua A 20 (uc plZ (A 20) 0 0 9)) W) := by
  obtain ⟨d, rfl⟩ : ∃ e, d = e + 1 := ⟨d - 1, by omega⟩
  rw [cl_X5_setPlain]
  simp (implicitDefEqProofs := false) (disch := omega) only [↓rI_s, ↓rV_s, ↓rI_e, ↓rV_e, zc_eq, zc_ne, zc_lt, zc_ge, zc_gt, zc_le, zlt_t, zlt_f, zle_t, zle_f, zeq_t, zeq_f, lz, zadd, zsub, zmul, zneg, zb_e0, zb_e1, boo0, boo1, ua_s, ua_n, ua_ua, up_s, u2_s, u2_f, u2_c, u2_u2, Int.natCast_add, Int.zero_add, Int.add_zero, ↓reduceIte, ne_eq, not_true_eq_false, not_false_eq_true, Int.natCast_one, ↓k_X5_setPlain_0, ↓zg_19_0, ↓zn_1, zc_1_20, ↓zp_19_4]
theorem c_wipe (hd : 1 ≤ d) : ∃ g, (∀ y : Int, 0 ≤ y → y < 10 → g y = -1) ∧ q_call q_MT d 46 [.ref 36] (zM I A W) = some (.inl none, zM (u2 I 36 6 0) (ua A 37 g) W) := by
  obtain ⟨d, rfl⟩ : ∃ e, d = e + 1 := ⟨d - 1, by omega⟩
  rw [cl_X2_wipe]
  simp (implicitDefEqProofs := false) (disch := omega) only [↓rI_s, ↓rV_s, ↓rI_e, ↓rV_e, zc_eq, zc_ne, zc_lt, zc_ge, zc_gt, zc_le, zlt_t, zlt_f, zle_t, zle_f, zeq_t, zeq_f, lz, zadd, zsub, zmul, zneg, zb_e0, zb_e1, boo0, boo1, ua_s, ua_n, ua_ua, up_s, u2_s, u2_f, u2_c, u2_u2, Int.natCast_add, Int.zero_add, Int.add_zero, ↓reduceIte, ne_eq, not_true_eq_false, not_false_eq_true, Int.natCast_one, ↓k_X2_wipe_0, ↓zp_36_6]
  have hid : ua A 37 (A 37) = A := ua_id
  conv => enter [1, g, 2, 1]; rw [← hid]
  refine lp_x (fun j (g : Int → Int) => q_run qm_X2_wipe (q_call q_MT d) 7 [.ref 36, .int (zI j)] [] (zM (u2 I 36 6 0) (ua A 37 g) W)) (fun j g => ∀ y : Int, 0 ≤ y → y < j → g y = -1) (fun r => ∃ g, (∀ y : Int, 0 ≤ y → y < 10 → g y = -1) ∧ r = some (.inl none, zM (u2 I 36 6 0) (ua A 37 g) W)) 10 ?_ ?_ 0 (A 37) (by omega) (fun y y0 y1 => by omega)
  · intro g hg
    refine ⟨g, hg, ?_⟩
    rw [k_X2_wipe_7]
    simp (implicitDefEqProofs := false) (disch := omega) only [↓rI_s, ↓rV_s, ↓rI_e, ↓rV_e, zc_eq, zc_ne, zc_lt, zc_ge, zc_gt, zc_le, zlt_t, zlt_f, zle_t, zle_f, zeq_t, zeq_f, lz, zadd, zsub, zmul, zneg, zb_e0, zb_e1, boo0, boo1, ua_s, ua_n, ua_ua, up_s, u2_s, u2_f, u2_c, u2_u2, Int.natCast_add, Int.zero_add, Int.add_zero, ↓reduceIte, ne_eq, not_true_eq_false, not_false_eq_true, Int.natCast_one]
  · intro j g hj hg
    refine .inr ⟨up g j (-1), fun y y0 y1 => ?_, ?_⟩
    · by_cases e : y = j
      · subst e; rw [up_s]
      · rw [up_n e]; exact hg y y0 (by omega)
    · rw [k_X2_wipe_7]
      simp (implicitDefEqProofs := false) (disch := omega) only [↓rI_s, ↓rV_s, ↓rI_e, ↓rV_e, zc_eq, zc_ne, zc_lt, zc_ge, zc_gt, zc_le, zlt_t, zlt_f, zle_t, zle_f, zeq_t, zeq_f, lz, zadd, zsub, zmul, zneg, zb_e0, zb_e1, boo0, boo1, ua_s, ua_n, ua_ua, up_s, u2_s, u2_f, u2_c, u2_u2, Int.natCast_add, Int.zero_add, Int.add_zero, ↓reduceIte, ne_eq, not_true_eq_false, not_false_eq_true, Int.natCast_one, ↓zg_36_2, zs_37]
theorem c_copyFrom (hd : 1 ≤ d) (hD : cD D I A) : ∃ I' A', fi [(5, 0), (5, 1), (5, 2), (5, 3), (5, 4)] I I' ∧ fr [6, 7, 8, 9, 10, 11] A A' ∧ (∀ j : Nat, j < 5 → I' 5 j = D.1 j) ∧ (∀ j : Int, 0 ≤ j → j < 5 → A' 6 j = D.2 13 j) ∧ (∀ j : Int, 0 ≤ j → j < 10 → A' 7 j = D.2 14 j ∧ A' 8 j = D.2 15 j ∧ A' 9 j = D.2 16 j) ∧ (∀ j : Int, 0 ≤ j → j < 4 → A' 10 j = D.2 17 j ∧ A' 11 j = D.2 18 j) ∧ q_call q_MT d 76 [.ref 5, .ref 12] (zM I A W) = some (.inl none, zM I' A' W) := by
  obtain ⟨d, rfl⟩ : ∃ e, d = e + 1 := ⟨d - 1, by omega⟩
  have j0 := hD.1 0 (by decide)
  have j1 := hD.1 1 (by decide)
  have j2 := hD.1 2 (by decide)
  have j3 := hD.1 3 (by decide)
  have j4 := hD.1 4 (by decide)
  have g3 := hD.2 13 (by decide) (by decide)
  have g4 := hD.2 14 (by decide) (by decide)
  have g5 := hD.2 15 (by decide) (by decide)
  have g6 := hD.2 16 (by decide) (by decide)
  have g7 := hD.2 17 (by decide) (by decide)
  have g8 := hD.2 18 (by decide) (by decide)
  refine ⟨u2 (u2 (u2 (u2 (u2 I 5 0 (D.1 0)) 5 1 (D.1 1)) 5 2 (D.1 2)) 5 3 (D.1 3)) 5 4 (D.1 4), ua (ua (ua (ua (ua (ua A 6 (uc (D.2 13) (A 6) 0 0 5)) 7 (uc (D.2 14) (A 7) 0 0 10)) 8 (uc (D.2 15) (A 8) 0 0 10)) 9 (uc (D.2 16) (A 9) 0 0 10)) 10 (uc (D.2 17) (A 10) 0 0 4)) 11 (uc (D.2 18) (A 11) 0 0 4), ((((fi.refl.f rfl).f rfl).f rfl).f rfl).f rfl, (((((fr.refl.a rfl).a rfl).a rfl).a rfl).a rfl).a rfl, fun j hj => ?_, fun j q0 q1 => ?_, fun j q0 q1 => ⟨?_, ?_, ?_⟩, fun j q0 q1 => ⟨?_, ?_⟩, ?_⟩
  · have : j = 0 ∨ j = 1 ∨ j = 2 ∨ j = 3 ∨ j = 4 := by omega
    rcases this with rfl | rfl | rfl | rfl | rfl <;> rfl
  · show uc (D.2 13) (A 6) 0 0 5 j = _
    rw [uc_in (by omega) (by omega), show 0 + (j - 0) = j by omega]
  · show uc (D.2 14) (A 7) 0 0 10 j = _
    rw [uc_in (by omega) (by omega), show 0 + (j - 0) = j by omega]
  · show uc (D.2 15) (A 8) 0 0 10 j = _
    rw [uc_in (by omega) (by omega), show 0 + (j - 0) = j by omega]
  · show uc (D.2 16) (A 9) 0 0 10 j = _
    rw [uc_in (by omega) (by omega), show 0 + (j - 0) = j by omega]
  · show uc (D.2 17) (A 10) 0 0 4 j = _
    rw [uc_in (by omega) (by omega), show 0 + (j - 0) = j by omega]
  · show uc (D.2 18) (A 11) 0 0 4 j = _
    rw [uc_in (by omega) (by omega), show 0 + (j - 0) = j by omega]
  · rw [cl_X6_copyFrom]
    simp (implicitDefEqProofs := false) (disch := omega) only [↓rI_s, ↓rV_s, ↓rI_e, ↓rV_e, zc_eq, zc_ne, zc_lt, zc_ge, zc_gt, zc_le, zlt_t, zlt_f, zle_t, zle_f, zeq_t, zeq_f, lz, zadd, zsub, zmul, zneg, zb_e0, zb_e1, boo0, boo1, ua_s, ua_n, ua_ua, up_s, u2_s, u2_f, u2_c, u2_u2, Int.natCast_add, Int.zero_add, Int.add_zero, ↓reduceIte, ne_eq, not_true_eq_false, not_false_eq_true, Int.natCast_one, ↓k_X6_copyFrom_0, ↓zg_12_0, ↓zg_12_1, ↓zg_12_2, ↓zg_12_3, ↓zg_12_4, ↓zp_5_0, ↓zp_5_1, ↓zp_5_2, ↓zp_5_3, ↓zp_5_4, j0, j1, j2, j3, j4, ↓zg_12_5, ↓zg_5_5, ↓zg_12_6, ↓zg_5_6, ↓zg_12_7, ↓zg_5_7, ↓zg_12_8, ↓zg_5_8, zc_13_6, zc_14_7, zc_15_8, zc_16_9, ↓k_X6_copyFrom_99, ↓zg_12_9, ↓zg_5_9, ↓zg_12_10, ↓zg_5_10, zc_17_10, zc_18_11, g3, g4, g5, g6, g7, g8]
end RS
