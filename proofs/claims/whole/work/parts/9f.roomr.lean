--DEPS 9e.roomq
def sE (R : zR) (s t : Int → Int) : Prop := (∀ w : Int, 0 ≤ w → w < rW R → t w = s w ∧ t (10 + w) = s (10 + w) ∧ t (20 + w) = s (20 + w) ∧ t (30 + w) = s (30 + w)) ∧ (∀ h : Int, 0 ≤ h → h < rH R → t (40 + h) = s (40 + h)) ∧ t 45 = s 45 ∧ t 46 = s 46
abbrev setK : List (Nat × Nat) := [(59, 21), (59, 22), (59, 23), (59, 24), (59, 25), (59, 32), (59, 37), (59, 38), (59, 48), (59, 61)]
section MS
variable {d : Nat} {I I' : Nat → Nat → Int} {A : Nat → Int → Int} {W : qWt} {T : Int → Int} {n a : Int} {D : zD}
theorem m_sets (hd : 2 ≤ d) (hD : mD D I A) (hk : dOK D) (ho : onF D) : ∃ I' A', fi setK I I' ∧ fr [65, 66, 67, 76] A A' ∧ mR (Rn D) I' A' ∧ mL plF I' A' ∧ I' 59 37 = 0 ∧ I' 59 38 = 0 ∧ I' 59 48 = 0 ∧ I' 59 61 = 0 ∧ sE (Rn D) (sNw D) (A' 76) ∧ q_call q_MT d 184 [.ref 59] (zM I A W) = some (.inl none, zM I' A' W) := by
  obtain ⟨d, rfl⟩ : ∃ e, d = e + 1 := ⟨d - 1, by omega⟩
  have hk' := hk
  obtain ⟨k0, k1, k2, k3, k4, k5, k6, k7⟩ := hk
  obtain ⟨j0, j1, j2, j3, j4, q5, q6, q7⟩ := hD
  have eH : (rH (Rn D) : Int) = D.1 0 := Int.toNat_of_nonneg k0.1
  have eW : (rW (Rn D) : Int) = D.1 1 := Int.toNat_of_nonneg k1.1
  have eC : (rC (Rn D) : Int) = D.1 2 := Int.toNat_of_nonneg k2.1
  have w10 : rW (Rn D) ≤ 10 := by omega
  have hh5 : rH (Rn D) ≤ 5 := by omega
  generalize hJ1 : u2 (u2 (u2 (u2 (u2 I 59 21 (D.1 0)) 59 22 (D.1 1)) 59 23 (D.1 2)) 59 24 (D.1 3)) 59 25 (D.1 4) = J1
  have c1 := m_copies_62_65 (d := d) (I := J1) (A := A) (W := W) (n := 5) (by omega) (by omega)
  have c2 := m_copies_63_66 (d := d) (I := J1) (A := ua A 65 (cpy 5 (A 62) (A 65))) (W := W) (n := 30) (by omega) (by omega)
  have c3 := m_copies_64_67 (d := d) (I := J1) (A := ua (ua A 65 (cpy 5 (A 62) (A 65))) 66 (cpy 30 (A 63) (A 66))) (W := W) (n := 8) (by omega) (by omega)
  have n5 : ((5 : Nat) : Int) = 5 := rfl
  have n30 : ((30 : Nat) : Int) = 30 := rfl
  have n8 : ((8 : Nat) : Int) = 8 := rfl
  rw [n5] at c1
  rw [n30, ua_n (by decide), ua_n (by decide)] at c2
  rw [n8, ua_n (by decide), ua_n (by decide), ua_n (by decide), ua_n (by decide)] at c3
  generalize hB : ua (ua (ua A 65 (cpy 5 (A 62) (A 65))) 66 (cpy 30 (A 63) (A 66))) 67 (cpy 8 (A 64) (A 67)) = B at c3
  have fB : fr [65, 66, 67] A B := by
    rw [← hB]
    exact ((fr.refl.a rfl).a rfl).a rfl
  generalize hJ2 : u2 (u2 (u2 (u2 (u2 J1 59 32 0) 59 48 0) 59 37 0) 59 61 0) 59 38 0 = J2
  have f1 : fi setK I J1 := by
    rw [← hJ1]
    exact ((((fi.refl.f rfl).f rfl).f rfl).f rfl).f rfl
  have f2 : fi [(59, 32), (59, 48), (59, 37), (59, 61), (59, 38)] J1 J2 := by
    rw [← hJ2]
    exact ((((fi.refl.f rfl).f rfl).f rfl).f rfl).f rfl
  have i21 : J2 59 21 = rH (Rn D) := by rw [eH, f2 59 21 rfl, ← hJ1]; rfl
  have i22 : J2 59 22 = rW (Rn D) := by rw [eW, f2 59 22 rfl, ← hJ1]; rfl
  have i23 : J2 59 23 = rC (Rn D) := by rw [eC, f2 59 23 rfl, ← hJ1]; rfl
  have i24 : J2 59 24 = D.1 3 := by rw [f2 59 24 rfl, ← hJ1]; rfl
  have i25 : J2 59 25 = D.1 4 := by rw [f2 59 25 rfl, ← hJ1]; rfl
  have b65 : B 65 = cpy 5 (A 62) (A 65) := by rw [← hB]; rfl
  have b66 : B 66 = cpy 30 (A 63) (A 66) := by rw [← hB]; rfl
  have b67 : B 67 = cpy 8 (A 64) (A 67) := by rw [← hB]; rfl
  have g66 : ∀ w : Int, 0 ≤ w → w < rW (Rn D) → B 66 (3 * w) = D.2 14 w ∧ B 66 (3 * w + 1) = D.2 15 w ∧ B 66 (3 * w + 2) = D.2 16 w := fun w w0 w1 => by
    rw [b66, cpy_t (by omega) (by omega), cpy_t (by omega) (by omega), cpy_t (by omega) (by omega)]
    exact q6 w w0 (by omega)
  have g67 : ∀ c : Int, 0 ≤ c → c < rC (Rn D) → B 67 (2 * c) = D.2 17 c ∧ B 67 (2 * c + 1) = D.2 18 c := fun w w0 w1 => by
    rw [b67, cpy_t (by omega) (by omega), cpy_t (by omega) (by omega)]
    exact q7 w w0 (by omega)
  have g65 : ∀ h : Int, 0 ≤ h → h < rH (Rn D) → B 65 h = D.2 13 h := fun w w0 w1 => by
    rw [b65, cpy_t (by omega) (by omega)]
    exact q5 w w0 (by omega)
  have start : q_call q_MT (d + 1) 184 [.ref 59] (zM I A W) = q_run qm_X11_sets (q_call q_MT d) 108 [.ref 59, .int (zI 0), q_junk] [] (zM J2 B W) := by
    rw [cl_X11_sets]
    simp (implicitDefEqProofs := false) (disch := omega) only [↓rI_s, ↓rV_s, ↓rI_e, ↓rV_e, zc_eq, zc_ne, zc_lt, zc_ge, zc_gt, zc_le, zlt_t, zlt_f, zle_t, zle_f, zeq_t, zeq_f, lz, zadd, zsub, zmul, zneg, zb_e0, zb_e1, boo0, boo1, ua_s, ua_n, ua_ua, up_s, u2_s, u2_f, u2_c, u2_u2, Int.natCast_add, Int.zero_add, Int.add_zero, ↓reduceIte, ne_eq, not_true_eq_false, not_false_eq_true, Int.natCast_one, ↓k_X11_sets_0, ↓zg_59_16, ↓zg_59_17, ↓zg_59_18, ↓zg_59_19, ↓zg_59_20, ↓zp_59_21, ↓zp_59_22, ↓zp_59_23, ↓zp_59_24, ↓zp_59_25, j0, j1, j2, j3, j4, hJ1, ↓zg_59_10, ↓zg_59_13, ↓mc_59, ↓cV c1, ↓zg_59_11, ↓zg_59_14, ↓cV c2, ↓zg_59_12, ↓zg_59_15, ↓cV c3, ↓zp_59_32, ↓zp_59_48, ↓k_X11_sets_91, ↓zp_59_37, ↓zp_59_61, ↓zp_59_38, hJ2]
  rw [start]
  -- zeros
  have z1 : ∃ g, (∀ y : Int, 0 ≤ y → y < 47 → g y = 0) ∧ q_run qm_X11_sets (q_call q_MT d) 108 [.ref 59, .int (zI 0), q_junk] [] (zM J2 B W) = q_run qm_X11_sets (q_call q_MT d) 129 [.ref 59, .int (zI 0), q_junk] [] (zM J2 (ua B 76 g) W) := by
    have hid : ua B 76 (B 76) = B := ua_id
    conv => enter [1, g, 2, 1]; rw [← hid]
    refine lp_x (fun j (g : Int → Int) => q_run qm_X11_sets (q_call q_MT d) 108 [.ref 59, .int (zI j), q_junk] [] (zM J2 (ua B 76 g) W)) (fun j g => ∀ y : Int, 0 ≤ y → y < j → g y = 0) (fun r => ∃ g, (∀ y : Int, 0 ≤ y → y < 47 → g y = 0) ∧ r = q_run qm_X11_sets (q_call q_MT d) 129 [.ref 59, .int (zI 0), q_junk] [] (zM J2 (ua B 76 g) W)) 47 ?_ ?_ 0 (B 76) (by omega) (fun y y0 y1 => by omega)
    · intro g hg
      refine ⟨g, hg, ?_⟩
      rw [k_X11_sets_108]
      simp (implicitDefEqProofs := false) (disch := omega) only [↓rI_s, ↓rV_s, ↓rI_e, ↓rV_e, zc_eq, zc_ne, zc_lt, zc_ge, zc_gt, zc_le, zlt_t, zlt_f, zle_t, zle_f, zeq_t, zeq_f, lz, zadd, zsub, zmul, zneg, zb_e0, zb_e1, boo0, boo1, ua_s, ua_n, ua_ua, up_s, u2_s, u2_f, u2_c, u2_u2, Int.natCast_add, Int.zero_add, Int.add_zero, ↓reduceIte, ne_eq, not_true_eq_false, not_false_eq_true, Int.natCast_one]
    · intro j g hj hg
      refine .inr ⟨up g j 0, fun y y0 y1 => ?_, ?_⟩
      · by_cases e : y = j
        · subst e; rw [up_s]
        · rw [up_n e]; exact hg y y0 (by omega)
      · rw [k_X11_sets_108]
        simp (implicitDefEqProofs := false) (disch := omega) only [↓rI_s, ↓rV_s, ↓rI_e, ↓rV_e, zc_eq, zc_ne, zc_lt, zc_ge, zc_gt, zc_le, zlt_t, zlt_f, zle_t, zle_f, zeq_t, zeq_f, lz, zadd, zsub, zmul, zneg, zb_e0, zb_e1, boo0, boo1, ua_s, ua_n, ua_ua, up_s, u2_s, u2_f, u2_c, u2_u2, Int.natCast_add, Int.zero_add, Int.add_zero, ↓reduceIte, ne_eq, not_true_eq_false, not_false_eq_true, Int.natCast_one, ↓zg_59_42, zs_76]
  obtain ⟨g0, hg0, e0⟩ := z1
  rw [e0]
  -- the row of winks
  have z2 : ∃ g l2, ((∀ v : Int, 0 ≤ v → v < rW (Rn D) → g v = D.2 16 v ∧ g (10 + v) = cnt v.toNat (fun o => decide (D.2 16 o = D.2 16 v))) ∧ ∀ y : Int, 20 ≤ y → y < 47 → g y = 0) ∧ q_run qm_X11_sets (q_call q_MT d) 129 [.ref 59, .int (zI 0), q_junk] [] (zM J2 (ua B 76 g0) W) = q_run qm_X11_sets (q_call q_MT d) 212 [.ref 59, .int (zI 0), l2] [] (zM J2 (ua B 76 g) W) := by
    refine lp_x (fun j (x : (Int → Int) × Value) => q_run qm_X11_sets (q_call q_MT d) 129 [.ref 59, .int (zI j), x.2] [] (zM J2 (ua B 76 x.1) W)) (fun j x => (∀ v : Int, 0 ≤ v → v < j → x.1 v = D.2 16 v ∧ x.1 (10 + v) = cnt v.toNat (fun o => decide (D.2 16 o = D.2 16 v))) ∧ (∀ v : Int, j ≤ v → v < 10 → x.1 (10 + v) = 0) ∧ ∀ y : Int, 20 ≤ y → y < 47 → x.1 y = 0) (fun r => ∃ g l2, ((∀ v : Int, 0 ≤ v → v < rW (Rn D) → g v = D.2 16 v ∧ g (10 + v) = cnt v.toNat (fun o => decide (D.2 16 o = D.2 16 v))) ∧ ∀ y : Int, 20 ≤ y → y < 47 → g y = 0) ∧ r = q_run qm_X11_sets (q_call q_MT d) 212 [.ref 59, .int (zI 0), l2] [] (zM J2 (ua B 76 g) W)) (rW (Rn D)) ?_ ?_ 0 (g0, q_junk) (by omega) ⟨fun v v0 v1 => by omega, fun v v0 v1 => hg0 _ (by omega) (by omega), fun y y0 y1 => hg0 y (by omega) y1⟩
    · rintro ⟨g, l2⟩ ⟨h1, h2, h3⟩
      refine ⟨g, l2, ⟨h1, h3⟩, ?_⟩
      dsimp only
      rw [k_X11_sets_129]
      simp (implicitDefEqProofs := false) (disch := omega) only [↓rI_s, ↓rV_s, ↓rI_e, ↓rV_e, zc_eq, zc_ne, zc_lt, zc_ge, zc_gt, zc_le, zlt_t, zlt_f, zle_t, zle_f, zeq_t, zeq_f, lz, zadd, zsub, zmul, zneg, zb_e0, zb_e1, boo0, boo1, ua_s, ua_n, ua_ua, up_s, u2_s, u2_f, u2_c, u2_u2, Int.natCast_add, Int.zero_add, Int.add_zero, ↓reduceIte, ne_eq, not_true_eq_false, not_false_eq_true, Int.natCast_one, ↓zg_59_22, i22, Int.le_refl]
    · rintro j ⟨g, l2⟩ hj ⟨h1, h2, h3⟩
      dsimp only at h1 h2 h3 ⊢
      refine .inr ?_
      have gj := (g66 j (by omega) (by omega)).2.2
      have hp : ∀ v : Int, 0 ≤ v → v < rW (Rn D) → 0 ≤ D.2 16 v ∧ D.2 16 v ≤ 29 := fun v v0 v1 => (k6 v v0 (by omega)).2.2
      have hpj := hp j (by omega) (by omega)
      have inner : ∃ g', g' = (fun i : Int => if i = (j : Int) then D.2 16 j else if i = 10 + (j : Int) then cnt j (fun o => decide (D.2 16 o = D.2 16 j)) else g i) ∧ q_run qm_X11_sets (q_call q_MT d) 157 [.ref 59, .int (zI j), .int (zI 0)] [] (zM J2 (ua B 76 (up g j (D.2 16 j))) W) = q_run qm_X11_sets (q_call q_MT d) 129 [.ref 59, .int (zI ((j : Int) + 1)), .int (zI j)] [] (zM J2 (ua B 76 g') W) := by
        refine lp_x (fun o (x : Int → Int) => q_run qm_X11_sets (q_call q_MT d) 157 [.ref 59, .int (zI j), .int (zI o)] [] (zM J2 (ua B 76 x) W)) (fun o x => x = (fun i : Int => if i = (j : Int) then D.2 16 j else if i = 10 + (j : Int) then cnt o (fun o => decide (D.2 16 o = D.2 16 j)) else g i)) (fun r => ∃ g', g' = (fun i : Int => if i = (j : Int) then D.2 16 j else if i = 10 + (j : Int) then cnt j (fun o => decide (D.2 16 o = D.2 16 j)) else g i) ∧ r = q_run qm_X11_sets (q_call q_MT d) 129 [.ref 59, .int (zI ((j : Int) + 1)), .int (zI j)] [] (zM J2 (ua B 76 g') W)) j ?_ ?_ 0 (up g j (D.2 16 j)) (by omega) ?_
        · intro x hx
          refine ⟨x, hx, ?_⟩
          rw [k_X11_sets_157]
          simp (implicitDefEqProofs := false) (disch := omega) only [↓rI_s, ↓rV_s, ↓rI_e, ↓rV_e, zc_eq, zc_ne, zc_lt, zc_ge, zc_gt, zc_le, zlt_t, zlt_f, zle_t, zle_f, zeq_t, zeq_f, lz, zadd, zsub, zmul, zneg, zb_e0, zb_e1, boo0, boo1, ua_s, ua_n, ua_ua, up_s, u2_s, u2_f, u2_c, u2_u2, Int.natCast_add, Int.zero_add, Int.add_zero, ↓reduceIte, ne_eq, not_true_eq_false, not_false_eq_true, Int.natCast_one, Int.le_refl]
        · intro o x ho hx
          have x1 : x (10 + (j : Int)) = cnt o (fun o => decide (D.2 16 o = D.2 16 j)) := by
            rw [hx]
            dsimp only
            rw [if_neg (by omega), if_pos rfl]
          have x2 : x o = D.2 16 o := by
            rw [hx]
            dsimp only
            rw [if_neg (by omega), if_neg (by omega)]
            exact (h1 o (by omega) (by omega)).1
          have x3 : x j = D.2 16 j := by
            rw [hx]
            exact if_pos rfl
          have hpo := hp o (by omega) (by omega)
          have cl := cnt_lo o (fun o => decide (D.2 16 o = D.2 16 j))
          have ch := cnt_hi o (fun o => decide (D.2 16 o = D.2 16 j))
          have stp : ∀ b : Int, b = (if D.2 16 o = D.2 16 j then 1 else 0) → up x (10 + (j : Int)) (cnt o (fun o => decide (D.2 16 o = D.2 16 j)) + b) = (fun i : Int => if i = (j : Int) then D.2 16 j else if i = 10 + (j : Int) then cnt (o + 1) (fun o => decide (D.2 16 o = D.2 16 j)) else g i) := by
            intro b hb
            funext i
            unfold up
            by_cases e : i = 10 + (j : Int)
            · rw [if_pos e, if_neg (by omega), if_pos e]
              by_cases c : D.2 16 o = D.2 16 j
              · rw [hb, if_pos c, cnt_t (p := fun o => decide (D.2 16 o = D.2 16 j)) (decide_eq_true c)]
              · rw [hb, if_neg c, cnt_f (p := fun o => decide (D.2 16 o = D.2 16 j)) (by simpa using c)]; omega
            · rw [if_neg e, hx]
              dsimp only
              by_cases e2 : i = j
              · rw [if_pos e2, if_pos e2]
              · rw [if_neg e2, if_neg e2, if_neg e, if_neg e]
          rw [k_X11_sets_157]
          by_cases c : D.2 16 o = D.2 16 j
          · refine .inr ⟨_, stp 1 (by rw [if_pos c]), ?_⟩
            simp (implicitDefEqProofs := false) (disch := omega) only [↓rI_s, ↓rV_s, ↓rI_e, ↓rV_e, zc_eq, zc_ne, zc_lt, zc_ge, zc_gt, zc_le, zlt_t, zlt_f, zle_t, zle_f, zeq_t, zeq_f, lz, zadd, zsub, zmul, zneg, zb_e0, zb_e1, boo0, boo1, ua_s, ua_n, ua_ua, up_s, u2_s, u2_f, u2_c, u2_u2, Int.natCast_add, Int.zero_add, Int.add_zero, ↓reduceIte, ne_eq, not_true_eq_false, not_false_eq_true, Int.natCast_one, ↓zg_59_42, zl_76, x1, x2, x3, c, ↓k_X11_sets_196, zs_76]
          · refine .inr ⟨_, stp 0 (by rw [if_neg c]), ?_⟩
            simp (implicitDefEqProofs := false) (disch := omega) only [↓rI_s, ↓rV_s, ↓rI_e, ↓rV_e, zc_eq, zc_ne, zc_lt, zc_ge, zc_gt, zc_le, zlt_t, zlt_f, zle_t, zle_f, zeq_t, zeq_f, lz, zadd, zsub, zmul, zneg, zb_e0, zb_e1, boo0, boo1, ua_s, ua_n, ua_ua, up_s, u2_s, u2_f, u2_c, u2_u2, Int.natCast_add, Int.zero_add, Int.add_zero, ↓reduceIte, ne_eq, not_true_eq_false, not_false_eq_true, Int.natCast_one, ↓zg_59_42, zl_76, x1, x2, x3, ↓k_X11_sets_196, zs_76]
        · funext i
          unfold up
          by_cases e : i = j
          · rw [if_pos e, if_pos e]
          · rw [if_neg e, if_neg e]
            by_cases e2 : i = 10 + (j : Int)
            · rw [if_pos e2, e2]
              exact h2 j (by omega) (by omega)
            · rw [if_neg e2]
      obtain ⟨g', hg', e2⟩ := inner
      refine ⟨(g', .int (zI j)), ⟨fun v v0 v1 => ?_, fun v v0 v1 => ?_, fun y y0 y1 => ?_⟩, ?_⟩
      · dsimp only
        rw [hg']
        dsimp only
        by_cases e : v = j
        · rw [if_pos e, if_neg (by omega), if_pos (by omega), e, Int.toNat_natCast]
          exact ⟨rfl, rfl⟩
        · rw [if_neg e, if_neg (by omega), if_neg (by omega), if_neg (by omega)]
          exact h1 v v0 (by omega)
      · dsimp only
        rw [hg']
        dsimp only
        rw [if_neg (by omega), if_neg (by omega)]
        exact h2 v (by omega) v1
      · dsimp only
        rw [hg']
        dsimp only
        rw [if_neg (by omega), if_neg (by omega)]
        exact h3 y y0 y1
      · dsimp only
        rw [k_X11_sets_129]
        simp (implicitDefEqProofs := false) (disch := omega) only [↓rI_s, ↓rV_s, ↓rI_e, ↓rV_e, zc_eq, zc_ne, zc_lt, zc_ge, zc_gt, zc_le, zlt_t, zlt_f, zle_t, zle_f, zeq_t, zeq_f, lz, zadd, zsub, zmul, zneg, zb_e0, zb_e1, boo0, boo1, ua_s, ua_n, ua_ua, up_s, u2_s, u2_f, u2_c, u2_u2, Int.natCast_add, Int.zero_add, Int.add_zero, ↓reduceIte, ne_eq, not_true_eq_false, not_false_eq_true, Int.natCast_one, ↓zg_59_22, i22, ↓zg_59_42, ↓zg_59_14, zl_66, gj, zs_76]
        exact e2
  obtain ⟨g1, l2, ⟨hg1, hg2⟩, e1⟩ := z2
  rw [e1]
  -- the purses
  refine lp_x (fun j (g : Int → Int) => q_run qm_X11_sets (q_call q_MT d) 212 [.ref 59, .int (zI j), l2] [] (zM J2 (ua B 76 g) W)) (fun j g => (∀ i : Int, i < 40 ∨ 45 ≤ i → g i = g1 i) ∧ ∀ h : Int, 0 ≤ h → h < j → g (40 + h) = D.2 13 h) (fun r => ∃ I' A', fi setK I I' ∧ fr [65, 66, 67, 76] A A' ∧ mR (Rn D) I' A' ∧ mL plF I' A' ∧ I' 59 37 = 0 ∧ I' 59 38 = 0 ∧ I' 59 48 = 0 ∧ I' 59 61 = 0 ∧ sE (Rn D) (sNw D) (A' 76) ∧ r = some (.inl none, zM I' A' W)) (rH (Rn D)) ?_ ?_ 0 g1 (by omega) ⟨fun i _ => rfl, fun h q0 q1 => by omega⟩
  · rintro g ⟨p1, p2⟩
    refine ⟨J2, ua B 76 g, f1.tr (f2.wd rfl), (fB.wd rfl).a rfl, ⟨Rn_w hk' ho, i21, i22, i23, i24, i25, fun w w0 w1 => (g66 w w0 w1).1, fun w w0 w1 => (g66 w w0 w1).2.1, fun c c0 c1 => (g67 c c0 c1).1, fun c c0 c1 => (g67 c c0 c1).2⟩, .inl ⟨?_, fun f => rfl⟩, ?_, ?_, ?_, ?_, ⟨fun w w0 w1 => ⟨?_, ?_, ?_, ?_⟩, fun h q0 q1 => ?_, ?_, ?_⟩, ?_⟩
    · rw [← hJ2]; rfl
    · rw [← hJ2]; rfl
    · rw [← hJ2]; rfl
    · rw [← hJ2]; rfl
    · rw [← hJ2]; rfl
    · rw [ua_s, p1 _ (by omega), (hg1 w w0 w1).1, sNw_0 (by omega)]
    · rw [ua_s, p1 _ (by omega), (hg1 w w0 w1).2, sNw_1 w0 (by omega)]
    · rw [ua_s, p1 _ (by omega), hg2 _ (by omega) (by omega), sNw_2 (by omega) (by omega)]
    · rw [ua_s, p1 _ (by omega), hg2 _ (by omega) (by omega), sNw_2 (by omega) (by omega)]
    · rw [ua_s, p2 h q0 q1, sNw_4 q0 (by omega)]
    · rw [ua_s, p1 _ (by omega), hg2 _ (by omega) (by omega), sNw_5 (by omega)]
    · rw [ua_s, p1 _ (by omega), hg2 _ (by omega) (by omega), sNw_5 (by omega)]
    · rw [k_X11_sets_212]
      simp (implicitDefEqProofs := false) (disch := omega) only [↓rI_s, ↓rV_s, ↓rI_e, ↓rV_e, zc_eq, zc_ne, zc_lt, zc_ge, zc_gt, zc_le, zlt_t, zlt_f, zle_t, zle_f, zeq_t, zeq_f, lz, zadd, zsub, zmul, zneg, zb_e0, zb_e1, boo0, boo1, ua_s, ua_n, ua_ua, up_s, u2_s, u2_f, u2_c, u2_u2, Int.natCast_add, Int.zero_add, Int.add_zero, ↓reduceIte, ne_eq, not_true_eq_false, not_false_eq_true, Int.natCast_one, ↓zg_59_21, i21, Int.le_refl]
  · rintro j g hj ⟨p1, p2⟩
    have gj := g65 j (by omega) (by omega)
    refine .inr ⟨up g (40 + j) (D.2 13 j), ⟨fun i hi => ?_, fun h q0 q1 => ?_⟩, ?_⟩
    · rw [up_n (by omega)]; exact p1 i hi
    · by_cases e : h = j
      · subst e; rw [up_s]
      · rw [up_n (by omega)]; exact p2 h q0 (by omega)
    · rw [k_X11_sets_212]
      simp (implicitDefEqProofs := false) (disch := omega) only [↓rI_s, ↓rV_s, ↓rI_e, ↓rV_e, zc_eq, zc_ne, zc_lt, zc_ge, zc_gt, zc_le, zlt_t, zlt_f, zle_t, zle_f, zeq_t, zeq_f, lz, zadd, zsub, zmul, zneg, zb_e0, zb_e1, boo0, boo1, ua_s, ua_n, ua_ua, up_s, u2_s, u2_f, u2_c, u2_u2, Int.natCast_add, Int.zero_add, Int.add_zero, ↓reduceIte, ne_eq, not_true_eq_false, not_false_eq_true, Int.natCast_one, ↓zg_59_21, i21, ↓zg_59_42, ↓zg_59_13, zl_65, gj, zs_76]
abbrev mbK : List (Nat × Nat) := [(59, 0), (59, 2), (59, 3), (59, 4), (59, 5), (59, 6), (59, 7), (59, 8), (59, 16), (59, 17), (59, 18), (59, 19), (59, 20)]
abbrev moK : List (Nat × Nat) := [(59, 0), (59, 2), (59, 3), (59, 4), (59, 5), (59, 6), (59, 7), (59, 8), (59, 16), (59, 17), (59, 18), (59, 19), (59, 20), (59, 21), (59, 22), (59, 23), (59, 24), (59, 25), (59, 32), (59, 37), (59, 38), (59, 48), (59, 61)]
theorem M_room {G : Nat → Int → Int} (hd : 8 ≤ d) (h : tpM T I A) (hn : wI n) : if 0 ≤ n ∧ n ≤ I 59 2 then (match rmA T n G with
    | .inl (k, p) => ∃ I' A', fi mbK I I' ∧ fr qL5 A A' ∧ I' 59 0 = 0 ∧ I' 59 2 = 0 ∧ I' 59 8 = p ∧ q_call q_MT d 189 [.ref 59, .int (zI n)] (zM I A W) = some (.inl (some (.int (zI (k - 10)))), zM I' A' W)
    | .inr D => ∃ I' A', fi moK I I' ∧ fr [62, 63, 64, 65, 66, 67, 76] A A' ∧ I' 59 0 = 0 ∧ I' 59 2 = 0 ∧ I' 59 8 = -1 ∧ I' 59 37 = 0 ∧ I' 59 38 = 0 ∧ I' 59 48 = 0 ∧ I' 59 61 = 0 ∧ mR (Rn D) I' A' ∧ mL plF I' A' ∧ sE (Rn D) (sNw D) (A' 76) ∧ q_call q_MT d 189 [.ref 59, .int (zI n)] (zM I A W) = some (.inl (some (.int (zI (D.1 1)))), zM I' A' W)) else q_call q_MT d 189 [.ref 59, .int (zI n)] (zM I A W) = some (.inl (some (.int (zI 0))), zM (u2 I 59 0 1) (mRf A 1) W) := by
  obtain ⟨d, rfl⟩ : ∃ e, d = e + 1 := ⟨d - 1, by omega⟩
  rw [cl_X11_room, k_X11_room_0]
  have hs := h.2.2
  split
  · rename_i q
    have h' : tpM T (u2 I 59 0 0) A := h
    obtain ⟨I1, x1, x2, x3, x4, x5, x6, x7⟩ := m_begins (W := W) (d := d) (n := n) (by omega) h' q
    have ecl : q_call q_MT d 183 [.ref 59] (zM I1 A W) = some (.inl none, zM (u2 (u2 (u2 (u2 (u2 I1 59 16 0) 59 17 0) 59 18 0) 59 19 12) 59 20 3) A W) := by
      obtain ⟨d, rfl⟩ : ∃ e, d = e + 1 := ⟨d - 1, by omega⟩
      rw [cl_X11_clears]
      simp (implicitDefEqProofs := false) (disch := omega) only [↓rI_s, ↓rV_s, ↓rI_e, ↓rV_e, zc_eq, zc_ne, zc_lt, zc_ge, zc_gt, zc_le, zlt_t, zlt_f, zle_t, zle_f, zeq_t, zeq_f, lz, zadd, zsub, zmul, zneg, zb_e0, zb_e1, boo0, boo1, ua_s, ua_n, ua_ua, up_s, u2_s, u2_f, u2_c, u2_u2, Int.natCast_add, Int.zero_add, Int.add_zero, ↓reduceIte, ne_eq, not_true_eq_false, not_false_eq_true, Int.natCast_one, ↓k_X11_clears_0, zp_59_16, zp_59_17, zp_59_18, zp_59_19, zp_59_20]
    generalize hI2 : u2 (u2 (u2 (u2 (u2 I1 59 16 0) 59 17 0) 59 18 0) 59 19 12) 59 20 3 = I2 at ecl
    have f2 : fi [(59, 16), (59, 17), (59, 18), (59, 19), (59, 20)] I1 I2 := by
      rw [← hI2]
      exact ((((fi.refl.f rfl).f rfl).f rfl).f rfl).f rfl
    have f0 : fi mbK I I1 := (fi.refl.f (c := 59) (f := 0) (v := 0) rfl).tr (x1.wd rfl)
    have fb : fi mbK I I2 := f0.tr (f2.wd rfl)
    have hD0 : mD (D0 G) I2 A := by
      have e0 : (D0 G).1 0 = 0 := rfl
      have e1 : (D0 G).1 1 = 0 := rfl
      have e2 : (D0 G).1 2 = 0 := rfl
      refine ⟨by rw [← hI2]; rfl, by rw [← hI2]; rfl, by rw [← hI2]; rfl, by rw [← hI2]; rfl, by rw [← hI2]; rfl, fun h q0 q1 => by omega, fun h q0 q1 => by omega, fun h q0 q1 => by omega⟩
    have i0 : I2 59 0 = 0 := (f2 59 0 rfl).trans ((x1 59 0 rfl).trans u2_s)
    have i2 : I2 59 2 = 0 := (f2 59 2 rfl).trans x4
    have y := m_rmLoop (W := W) (d := d) 601 0 (D0 G) 0 I2 A q_junk (by omega) (by omega) (by omega) (x2.fi f2 rfl) ((f2 59 5 rfl).trans x3) hD0 D0_ok
    have c0 : ((0 : Nat) : Int) = 0 := rfl
    rw [c0] at y
    unfold rmA
    rcases hs : rmS T n 601 0 (D0 G) 0 with ⟨k, p⟩ | ⟨e3, D⟩
    · rw [hs] at y
      obtain ⟨I3, A3, l2, l3, y1, y2, y3, y4, y5, y6, y7⟩ := y
      have w5 : wI (I3 59 5) := by rw [y4]; omega
      have n5 : I3 59 5 ≠ -1 := by rw [y4]; omega
      have f3 := m_fine (I := I3) (A := A3) (W := W) (d := d) (by omega) w5
      rw [zb_f n5] at f3
      have er := fun g => m_result_b (d := d) (I := I3) (A := A3) (W := W) (g := g) (by omega) (by omega)
      refine ⟨u2 I3 59 8 p, A3, (fb.tr (y1.wd rfl)).f rfl, y2, (u2_f (by decide)).trans ((y1 59 0 rfl).trans i0), (u2_f (by decide)).trans ((y1 59 2 rfl).trans i2), u2_s, ?_⟩
      simp (implicitDefEqProofs := false) (disch := omega) only [↓rI_s, ↓rV_s, ↓rI_e, ↓rV_e, zc_eq, zc_ne, zc_lt, zc_ge, zc_gt, zc_le, zlt_t, zlt_f, zle_t, zle_f, zeq_t, zeq_f, lz, zadd, zsub, zmul, zneg, zb_e0, zb_e1, boo0, boo1, ua_s, ua_n, ua_ua, up_s, u2_s, u2_f, u2_c, u2_u2, Int.natCast_add, Int.zero_add, Int.add_zero, ↓reduceIte, ne_eq, not_true_eq_false, not_false_eq_true, Int.natCast_one, ↓zp_59_0, ↓zg_59_2, ↓k_X11_room_23, ↓mc_59, s_may1, ↓cV x7, ↓cV ecl, y7, ↓k_X11_room_180, ↓cI f3, ↓k_X11_room_200, ↓zg_59_17, er, y3, y4, ↓zg_59_5, ↓k_X11_room_221]
    · rw [hs] at y
      obtain ⟨I3, A3, l2, l3, y1, y2, y3, y4, y5, y6⟩ := y
      have f3 := m_fine (I := I3) (A := A3) (W := W) (d := d) (by omega) (by omega)
      rw [zb_t y3] at f3
      have eo := m_liesOnFelt (W := W) (d := d) (by omega) y4 y5
      have i17 := y4.2.1
      show match (if onF D then .inr D else .inl (4, n) : zE zD) with
        | .inl (k, p) => _
        | .inr D => _
      by_cases c : onF D
      · rw [if_pos c]
        rw [zb_t c] at eo
        have er := m_result (d := d) (I := I3) (A := A3) (W := W) (g := D.1 1) (by omega) y3
        have y4' : mD D (u2 I3 59 8 (-1)) A3 := y4
        obtain ⟨I4, A4, z1, z2, z3, z4, z5, z6, z7, z8, z9, z10⟩ := m_sets (W := W) (d := d) (by omega) y4' y5 c
        have g8 : u2 I3 59 8 (-1) 59 5 = -1 := by rw [u2_f (by decide)]; exact y3
        refine ⟨I4, A4, (((fb.tr (y1.wd rfl)).wd rfl).f (c := 59) (f := 8) (v := -1) rfl).tr (z1.wd rfl), (y2.wd rfl).tr (z2.wd rfl), ?_, ?_, ?_, z5, z6, z7, z8, z3, z4, z9, ?_⟩
        · exact (z1 59 0 rfl).trans ((u2_f (by decide)).trans ((y1 59 0 rfl).trans i0))
        · exact (z1 59 2 rfl).trans ((u2_f (by decide)).trans ((y1 59 2 rfl).trans i2))
        · exact (z1 59 8 rfl).trans u2_s
        · simp (implicitDefEqProofs := false) (disch := omega) only [↓rI_s, ↓rV_s, ↓rI_e, ↓rV_e, zc_eq, zc_ne, zc_lt, zc_ge, zc_gt, zc_le, zlt_t, zlt_f, zle_t, zle_f, zeq_t, zeq_f, lz, zadd, zsub, zmul, zneg, zb_e0, zb_e1, boo0, boo1, ua_s, ua_n, ua_ua, up_s, u2_s, u2_f, u2_c, u2_u2, Int.natCast_add, Int.zero_add, Int.add_zero, ↓reduceIte, ne_eq, not_true_eq_false, not_false_eq_true, Int.natCast_one, ↓zp_59_0, ↓zg_59_2, ↓k_X11_room_23, ↓mc_59, s_may1, ↓cV x7, ↓cV ecl, y6, ↓k_X11_room_180, ↓cI f3, ↓cI eo, ↓k_X11_room_200, ↓zg_59_17, i17, ↓cI er, ↓zg_59_5, y3, ↓cV z10, ↓k_X11_room_221]
      · rw [if_neg c]
        rw [zb_f c] at eo
        have ew := m_wrong (I := I3) (A := A3) (W := W) (d := d) (k := 4) (p := n) (by omega) y3
        have g5 : u2 (u2 I3 59 5 n) 59 6 4 59 5 = n := by rw [u2_f (by decide), u2_s]
        have g6 : u2 (u2 I3 59 5 n) 59 6 4 59 6 = 4 := u2_s
        have er := fun g => m_result_b (d := d) (I := u2 (u2 I3 59 5 n) 59 6 4) (A := A3) (W := W) (g := g) (by omega) (by omega)
        rw [g5, g6] at er
        refine ⟨u2 (u2 (u2 I3 59 5 n) 59 6 4) 59 8 n, A3, (((fb.tr (y1.wd rfl)).f rfl).f rfl).f rfl, y2, ?_, ?_, u2_s, ?_⟩
        · exact (y1 59 0 rfl).trans i0
        · exact (y1 59 2 rfl).trans i2
        · simp (implicitDefEqProofs := false) (disch := omega) only [↓rI_s, ↓rV_s, ↓rI_e, ↓rV_e, zc_eq, zc_ne, zc_lt, zc_ge, zc_gt, zc_le, zlt_t, zlt_f, zle_t, zle_f, zeq_t, zeq_f, lz, zadd, zsub, zmul, zneg, zb_e0, zb_e1, boo0, boo1, ua_s, ua_n, ua_ua, up_s, u2_s, u2_f, u2_c, u2_u2, Int.natCast_add, Int.zero_add, Int.add_zero, ↓reduceIte, ne_eq, not_true_eq_false, not_false_eq_true, Int.natCast_one, ↓zp_59_0, ↓zg_59_2, ↓k_X11_room_23, ↓mc_59, s_may1, ↓cV x7, ↓cV ecl, y6, ↓k_X11_room_180, ↓cI f3, ↓cI eo, ↓cV ew, ↓k_X11_room_200, ↓zg_59_17, er, ↓zg_59_5, ↓k_X11_room_221]
  · rename_i q
    by_cases q1 : n < 0
    · simp (implicitDefEqProofs := false) (disch := omega) only [↓rI_s, ↓rV_s, ↓rI_e, ↓rV_e, zc_eq, zc_ne, zc_lt, zc_ge, zc_gt, zc_le, zlt_t, zlt_f, zle_t, zle_f, zeq_t, zeq_f, lz, zadd, zsub, zmul, zneg, zb_e0, zb_e1, boo0, boo1, ua_s, ua_n, ua_ua, up_s, u2_s, u2_f, u2_c, u2_u2, Int.natCast_add, Int.zero_add, Int.add_zero, ↓reduceIte, ne_eq, not_true_eq_false, not_false_eq_true, Int.natCast_one, ↓zp_59_0, ↓k_X11_room_22, ↓k_X11_room_23, ↓mc_59, s_may0]
    · simp (implicitDefEqProofs := false) (disch := omega) only [↓rI_s, ↓rV_s, ↓rI_e, ↓rV_e, zc_eq, zc_ne, zc_lt, zc_ge, zc_gt, zc_le, zlt_t, zlt_f, zle_t, zle_f, zeq_t, zeq_f, lz, zadd, zsub, zmul, zneg, zb_e0, zb_e1, boo0, boo1, ua_s, ua_n, ua_ua, up_s, u2_s, u2_f, u2_c, u2_u2, Int.natCast_add, Int.zero_add, Int.add_zero, ↓reduceIte, ne_eq, not_true_eq_false, not_false_eq_true, Int.natCast_one, ↓zp_59_0, ↓zg_59_2, ↓k_X11_room_22, ↓k_X11_room_23, ↓mc_59, s_may0]
end MS
