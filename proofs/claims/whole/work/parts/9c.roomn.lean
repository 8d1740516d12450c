--DEPS 9b.roomm
section MN
variable {d : Nat} {I I' : Nat → Nat → Int} {A : Nat → Int → Int} {W : qWt} {T : Int → Int} {n a : Int} {D : zD}
/-- the rows of cups are looked through -/
theorem m_cupLoop {x place : Int} (hd : 2 ≤ d) (hb5 : I 59 5 = -1) (hD : mD D I A) (hk : dOK D) (hx : 0 ≤ x ∧ x ≤ 29) (hp : 0 ≤ place ∧ place ≤ 600) : ∃ l3, q_run qm_X11_readCup (q_call q_MT d) 20 [.ref 59, .int (zI place), .int (zI x), .int (zI 0)] [] (zM I A W) = q_run qm_X11_readCup (q_call q_MT d) 59 [.ref 59, .int (zI place), .int (zI x), l3] [] (zM (if fst (D.1 2).toNat (fun c => decide (D.2 17 c = x)) = -1 then I else u2 (u2 I 59 5 place) 59 6 2) A W) := by
  have j2 := hD.2.2.1
  have k2 := hk.2.2.1
  obtain ⟨N, hN⟩ := Int.eq_ofNat_of_zero_le k2.1
  have q7 := hD.2.2.2.2.2.2.2
  have k7 := hk.2.2.2.2.2.2.2
  rw [hN] at j2 k2 q7 k7
  rw [hN, Int.toNat_natCast]
  have f1 := m_fine (I := I) (A := A) (W := W) (d := d) (by omega) (by omega)
  rw [zb_t hb5] at f1
  refine lp_x (fun j (_ : Unit) => q_run qm_X11_readCup (q_call q_MT d) 20 [.ref 59, .int (zI place), .int (zI x), .int (zI j)] [] (zM I A W)) (fun j _ => ∀ i : Nat, i < j → ¬ decide (D.2 17 i = x) = true) (fun r => ∃ l3, r = q_run qm_X11_readCup (q_call q_MT d) 59 [.ref 59, .int (zI place), .int (zI x), l3] [] (zM (if fst N (fun c => decide (D.2 17 c = x)) = -1 then I else u2 (u2 I 59 5 place) 59 6 2) A W)) N ?_ ?_ 0 () (by omega) (fun i hi => absurd hi (by omega))
  · intro _ ha
    refine ⟨.int (zI N), ?_⟩
    rw [fst_no ha, if_pos rfl, k_X11_readCup_20]
    simp (implicitDefEqProofs := false) (disch := omega) only [↓rI_s, ↓rV_s, ↓rI_e, ↓rV_e, zc_eq, zc_ne, zc_lt, zc_ge, zc_gt, zc_le, zlt_t, zlt_f, zle_t, zle_f, zeq_t, zeq_f, lz, zadd, zsub, zmul, zneg, zb_e0, zb_e1, boo0, boo1, ua_s, ua_n, ua_ua, up_s, u2_s, u2_f, u2_c, u2_u2, Int.natCast_add, Int.zero_add, Int.add_zero, ↓reduceIte, ne_eq, not_true_eq_false, not_false_eq_true, Int.natCast_one, ↓zg_59_18, j2, Int.le_refl]
  · intro j _ hj ha
    have g := (q7 j (by omega) (by omega)).1
    have b := (k7 j (by omega) (by omega)).1
    rw [k_X11_readCup_20]
    by_cases c : D.2 17 j = x
    · refine .inl ⟨.int (zI (j + 1)), ?_⟩
      rw [fst_at hj ha (decide_eq_true c), if_neg (by omega)]
      have ew := m_wrong (I := I) (A := A) (W := W) (d := d) (k := 2) (p := place) (by omega) hb5
      have f3 := m_fine (I := u2 (u2 I 59 5 place) 59 6 2) (A := A) (W := W) (d := d) (by omega) (by rw [u2_f (by decide), u2_s]; omega)
      rw [zb_f (by rw [u2_f (by decide), u2_s]; omega)] at f3
      have j2' : u2 (u2 I 59 5 place) 59 6 2 59 18 = N := j2
      simp (implicitDefEqProofs := false) (disch := omega) only [↓rI_s, ↓rV_s, ↓rI_e, ↓rV_e, zc_eq, zc_ne, zc_lt, zc_ge, zc_gt, zc_le, zlt_t, zlt_f, zle_t, zle_f, zeq_t, zeq_f, lz, zadd, zsub, zmul, zneg, zb_e0, zb_e1, boo0, boo1, ua_s, ua_n, ua_ua, up_s, u2_s, u2_f, u2_c, u2_u2, Int.natCast_add, Int.zero_add, Int.add_zero, ↓reduceIte, ne_eq, not_true_eq_false, not_false_eq_true, Int.natCast_one, ↓zg_59_18, j2, ↓mc_59, ↓cI f1, ↓zg_59_12, zl_64, g, c, ↓cV ew, ↓k_X11_readCup_53]
      rw [k_X11_readCup_20]
      by_cases c2 : (N : Int) ≤ j + 1
      · simp (implicitDefEqProofs := false) (disch := omega) only [↓rI_s, ↓rV_s, ↓rI_e, ↓rV_e, zc_eq, zc_ne, zc_lt, zc_ge, zc_gt, zc_le, zlt_t, zlt_f, zle_t, zle_f, zeq_t, zeq_f, lz, zadd, zsub, zmul, zneg, zb_e0, zb_e1, boo0, boo1, ua_s, ua_n, ua_ua, up_s, u2_s, u2_f, u2_c, u2_u2, Int.natCast_add, Int.zero_add, Int.add_zero, ↓reduceIte, ne_eq, not_true_eq_false, not_false_eq_true, Int.natCast_one, ↓zg_59_18, j2]
      · simp (implicitDefEqProofs := false) (disch := omega) only [↓rI_s, ↓rV_s, ↓rI_e, ↓rV_e, zc_eq, zc_ne, zc_lt, zc_ge, zc_gt, zc_le, zlt_t, zlt_f, zle_t, zle_f, zeq_t, zeq_f, lz, zadd, zsub, zmul, zneg, zb_e0, zb_e1, boo0, boo1, ua_s, ua_n, ua_ua, up_s, u2_s, u2_f, u2_c, u2_u2, Int.natCast_add, Int.zero_add, Int.add_zero, ↓reduceIte, ne_eq, not_true_eq_false, not_false_eq_true, Int.natCast_one, ↓zg_59_18, j2, ↓mc_59, ↓cI f3]
    · refine .inr ⟨(), fun i hi => ?_, ?_⟩
      · by_cases e : i = j
        · subst e; simpa using c
        · exact ha i (by omega)
      · simp (implicitDefEqProofs := false) (disch := omega) only [↓rI_s, ↓rV_s, ↓rI_e, ↓rV_e, zc_eq, zc_ne, zc_lt, zc_ge, zc_gt, zc_le, zlt_t, zlt_f, zle_t, zle_f, zeq_t, zeq_f, lz, zadd, zsub, zmul, zneg, zb_e0, zb_e1, boo0, boo1, ua_s, ua_n, ua_ua, up_s, u2_s, u2_f, u2_c, u2_u2, Int.natCast_add, Int.zero_add, Int.add_zero, ↓reduceIte, ne_eq, not_true_eq_false, not_false_eq_true, Int.natCast_one, ↓zg_59_18, j2, ↓mc_59, ↓cI f1, ↓zg_59_12, zl_64, g, ↓k_X11_readCup_53]
theorem m_readCup (hd : 3 ≤ d) (h : mTx T n a I A) (hb5 : I 59 5 = -1) (hD : mD D I A) (hk : dOK D) (h5 : D.1 2 < 4) : mE T n qK5 qL5 I A W (q_call q_MT d 186 [.ref 59] (zM I A W)) mD (rCu T n D a) := by
  obtain ⟨d, rfl⟩ : ∃ e, d = e + 1 := ⟨d - 1, by omega⟩
  have han := h.2.2.2.2.2.1
  have ha0 := h.2.2.2.2.1
  have hn6 := h.2.2.2.2.2.2
  have k2 := hk.2.2.1
  have sb := sk_b (T := T) han
  have eh := m_here (W := W) (d := d) (by omega) h
  have h' : mTx T n (sk T n a) (u2 I 59 4 (sk T n a)) A := h.u (u2_f (by decide)) u2_s (by omega) sb.2
  have fI : fi yK I (u2 I 59 4 (sk T n a)) := fi.refl.f rfl
  have b5 : u2 I 59 4 (sk T n a) 59 5 = -1 := by rw [u2_f (by decide)]; exact hb5
  have e1 := m_readNumber (lo := 0) (hi := 29) (W := W) (d := d) (by omega) h' b5 (by omega) (by omega)
  have eq : numS T n 0 29 (sk T n a) = numS T n 0 29 a := by unfold numS; rw [sk_sk han]
  rw [eq] at e1
  unfold rCu
  rcases hq : numS T n 0 29 a with ⟨k, p⟩ | ⟨e, v⟩
  · rw [hq] at e1
    have r1 := numS_l han hq
    obtain ⟨I1, a1, x1, x2, x3, x4, x5⟩ := e1
    have w5 : wI (I1 59 5) := by rw [x4]; omega
    have n5 : I1 59 5 ≠ -1 := by rw [x4]; omega
    have j2 := ((hD.k fI).k x1).2.2.1
    have f2 := m_fine (I := I1) (A := A) (W := W) (d := d) (by omega) w5
    rw [zb_f n5] at f2
    have nb := m_readNumber_b (I := I1) (A := ua A 64 (up (A 64) (2 * D.1 2) 0)) (W := W) (d := d) (lo := 1) (hi := 99) (by omega) n5 w5
    refine mE.bad (u2 I1 59 18 (D.1 2 + 1)) (ua A 64 (up (up (A 64) (2 * D.1 2) 0) (2 * D.1 2 + 1) 0)) (((fI.tr x1).wd rfl).f rfl) (fr.refl.a rfl) ((u2_f (by decide)).trans x3) ((u2_f (by decide)).trans x4) (by omega) ?_
    rw [cl_X11_readCup]
    by_cases c : D.1 2 ≤ 0
    · simp (implicitDefEqProofs := false) (disch := omega) only [↓rI_s, ↓rV_s, ↓rI_e, ↓rV_e, zc_eq, zc_ne, zc_lt, zc_ge, zc_gt, zc_le, zlt_t, zlt_f, zle_t, zle_f, zeq_t, zeq_f, lz, zadd, zsub, zmul, zneg, zb_e0, zb_e1, boo0, boo1, ua_s, ua_n, ua_ua, up_s, u2_s, u2_f, u2_c, u2_u2, Int.natCast_add, Int.zero_add, Int.add_zero, ↓reduceIte, ne_eq, not_true_eq_false, not_false_eq_true, Int.natCast_one, ↓k_X11_readCup_0, ↓mc_59, ↓cI eh, ↓zg_59_4, ↓cI x5, ↓k_X11_readCup_20, ↓zg_59_18, j2, ↓k_X11_readCup_59, ↓zg_59_12, zs_64, nb, ↓zp_59_18]
    · simp (implicitDefEqProofs := false) (disch := omega) only [↓rI_s, ↓rV_s, ↓rI_e, ↓rV_e, zc_eq, zc_ne, zc_lt, zc_ge, zc_gt, zc_le, zlt_t, zlt_f, zle_t, zle_f, zeq_t, zeq_f, lz, zadd, zsub, zmul, zneg, zb_e0, zb_e1, boo0, boo1, ua_s, ua_n, ua_ua, up_s, u2_s, u2_f, u2_c, u2_u2, Int.natCast_add, Int.zero_add, Int.add_zero, ↓reduceIte, ne_eq, not_true_eq_false, not_false_eq_true, Int.natCast_one, ↓k_X11_readCup_0, ↓mc_59, ↓cI eh, ↓zg_59_4, ↓cI x5, ↓k_X11_readCup_20, ↓zg_59_18, j2, ↓cI f2, ↓k_X11_readCup_59, ↓zg_59_12, zs_64, nb, ↓zp_59_18]
  · rw [hq] at e1
    have r1 := numS_r han hq
    obtain ⟨I1, x1, x2, x3, x4⟩ := e1
    have hD1 := (hD.k fI).k x1
    have j2 := hD1.2.2.1
    obtain ⟨l3, el⟩ := m_cupLoop (W := W) (d := d) (x := v) (place := sk T n a) (by omega) x3 hD1 hk (by omega) (by omega)
    show mE _ _ _ _ _ _ _ _ _ (if fst (D.1 2).toNat (fun c => decide (D.2 17 c = v)) = -1 then bd (numS T n 1 99 e) fun y => .inr (y.1, uj D.1 2 (D.1 2 + 1), ua (ua D.2 17 (up (D.2 17) (D.1 2) v)) 18 (up (D.2 18) (D.1 2) y.2)) else .inl (2, sk T n a))
    by_cases c : fst (D.1 2).toNat (fun c => decide (D.2 17 c = v)) = -1
    · rw [if_pos c]
      rw [if_pos c] at el
      have fA1 : fr [64] A (ua A 64 (up (A 64) (2 * D.1 2) v)) := fr.refl.a rfl
      have e2 := m_readNumber (lo := 1) (hi := 99) (W := W) (d := d) (by omega) (x2.fr fA1 rfl) x3 (by omega) (by omega)
      rcases hq2 : numS T n 1 99 e with ⟨k, p⟩ | ⟨e', u⟩
      · rw [hq2] at e2
        have r2 := numS_l (by omega) hq2
        obtain ⟨I2, a2, y1, y2, y3, y4, y5⟩ := e2
        have j2b := (y1 59 18 rfl).trans j2
        refine mE.bad (u2 I2 59 18 (D.1 2 + 1)) (ua A 64 (up (up (A 64) (2 * D.1 2) v) (2 * D.1 2 + 1) 0)) ((((fI.tr x1).tr y1).wd rfl).f rfl) (fr.refl.a rfl) ((u2_f (by decide)).trans y3) ((u2_f (by decide)).trans y4) (by omega) ?_
        rw [cl_X11_readCup]
        simp (implicitDefEqProofs := false) (disch := omega) only [↓rI_s, ↓rV_s, ↓rI_e, ↓rV_e, zc_eq, zc_ne, zc_lt, zc_ge, zc_gt, zc_le, zlt_t, zlt_f, zle_t, zle_f, zeq_t, zeq_f, lz, zadd, zsub, zmul, zneg, zb_e0, zb_e1, boo0, boo1, ua_s, ua_n, ua_ua, up_s, u2_s, u2_f, u2_c, u2_u2, Int.natCast_add, Int.zero_add, Int.add_zero, ↓reduceIte, ne_eq, not_true_eq_false, not_false_eq_true, Int.natCast_one, ↓k_X11_readCup_0, ↓mc_59, ↓cI eh, ↓zg_59_4, ↓cI x4, el, ↓k_X11_readCup_59, ↓zg_59_12, ↓zg_59_18, j2, zs_64, y5, j2b, ↓zp_59_18]
      · rw [hq2] at e2
        obtain ⟨I2, y1, y2, y3, y4⟩ := e2
        have j2b := (y1 59 18 rfl).trans j2
        obtain ⟨q0, q1, q2, q3, q4, q5, q6, q7⟩ := hD1.k y1
        have fA2 : fr [64] (ua A 64 (up (A 64) (2 * D.1 2) v)) (ua A 64 (up (up (A 64) (2 * D.1 2) v) (2 * D.1 2 + 1) u)) := by
          rw [← ua_ua (A := A) (c := 64) (g := up (A 64) (2 * D.1 2) v) (g' := up (up (A 64) (2 * D.1 2) v) (2 * D.1 2 + 1) u)]
          exact fr.refl.a rfl
        refine mE.ok (u2 I2 59 18 (D.1 2 + 1)) (ua A 64 (up (up (A 64) (2 * D.1 2) v) (2 * D.1 2 + 1) u)) ((((fI.tr x1).tr y1).wd rfl).f rfl) (fr.refl.a rfl) ((y2.fr fA2 rfl).fi (K := [(59, 18)]) (fi.refl.f rfl) rfl) ((u2_f (by decide)).trans y3) ⟨q0, q1, u2_s.trans (uj_s (J := D.1) (f := 2) (v := D.1 2 + 1)).symm, q3, q4, q5, q6, fun w w0 w1 => ?_⟩ ?_
        · have w1 : w < D.1 2 + 1 := w1
          show up (up (A 64) (2 * D.1 2) v) (2 * D.1 2 + 1) u (2 * w) = up (D.2 17) (D.1 2) v w ∧ up (up (A 64) (2 * D.1 2) v) (2 * D.1 2 + 1) u (2 * w + 1) = up (D.2 18) (D.1 2) u w
          by_cases c : w = D.1 2
          · subst c
            rw [up_n (j' := 2 * D.1 2) (by omega)]
            rw [up_s, up_s, up_s, up_s]
            exact ⟨rfl, rfl⟩
          · rw [up_n (j' := 2 * w) (by omega), up_n (j' := 2 * w) (by omega), up_n (j' := 2 * w + 1) (by omega), up_n (j' := 2 * w + 1) (by omega), up_n c, up_n c]
            exact q7 w w0 (by omega)
        · rw [cl_X11_readCup]
          simp (implicitDefEqProofs := false) (disch := omega) only [↓rI_s, ↓rV_s, ↓rI_e, ↓rV_e, zc_eq, zc_ne, zc_lt, zc_ge, zc_gt, zc_le, zlt_t, zlt_f, zle_t, zle_f, zeq_t, zeq_f, lz, zadd, zsub, zmul, zneg, zb_e0, zb_e1, boo0, boo1, ua_s, ua_n, ua_ua, up_s, u2_s, u2_f, u2_c, u2_u2, Int.natCast_add, Int.zero_add, Int.add_zero, ↓reduceIte, ne_eq, not_true_eq_false, not_false_eq_true, Int.natCast_one, ↓k_X11_readCup_0, ↓mc_59, ↓cI eh, ↓zg_59_4, ↓cI x4, el, ↓k_X11_readCup_59, ↓zg_59_12, ↓zg_59_18, j2, zs_64, y4, j2b, ↓zp_59_18]
    · rw [if_neg c]
      rw [if_neg c] at el
      have b5 : u2 (u2 I1 59 5 (sk T n a)) 59 6 2 59 5 = sk T n a := by rw [u2_f (by decide), u2_s]
      have w5 : wI (u2 (u2 I1 59 5 (sk T n a)) 59 6 2 59 5) := by rw [b5]; omega
      have n5 : u2 (u2 I1 59 5 (sk T n a)) 59 6 2 59 5 ≠ -1 := by rw [b5]; omega
      have nb := m_readNumber_b (I := u2 (u2 I1 59 5 (sk T n a)) 59 6 2) (A := ua A 64 (up (A 64) (2 * D.1 2) v)) (W := W) (d := d) (lo := 1) (hi := 99) (by omega) n5 w5
      refine mE.bad (u2 (u2 (u2 I1 59 5 (sk T n a)) 59 6 2) 59 18 (D.1 2 + 1)) (ua A 64 (up (up (A 64) (2 * D.1 2) v) (2 * D.1 2 + 1) 0)) (((((fI.tr x1).wd rfl).f rfl).f rfl).f rfl) (fr.refl.a rfl) (by rw [u2_f (by decide), u2_s]) (by rw [u2_f (by decide), b5]) (by omega) ?_
      rw [cl_X11_readCup]
      simp (implicitDefEqProofs := false) (disch := omega) only [↓rI_s, ↓rV_s, ↓rI_e, ↓rV_e, zc_eq, zc_ne, zc_lt, zc_ge, zc_gt, zc_le, zlt_t, zlt_f, zle_t, zle_f, zeq_t, zeq_f, lz, zadd, zsub, zmul, zneg, zb_e0, zb_e1, boo0, boo1, ua_s, ua_n, ua_ua, up_s, u2_s, u2_f, u2_c, u2_u2, Int.natCast_add, Int.zero_add, Int.add_zero, ↓reduceIte, ne_eq, not_true_eq_false, not_false_eq_true, Int.natCast_one, ↓k_X11_readCup_0, ↓mc_59, ↓cI eh, ↓zg_59_4, ↓cI x4, el, ↓k_X11_readCup_59, ↓zg_59_12, ↓zg_59_18, j2, zs_64, nb, ↓zp_59_18]
theorem mE.up {β : Type} {K : List (Nat × Nat)} {L : List Nat} {I1 : Nat → Nat → Int} {A1 : Nat → Int → Int} {r r' : qR} {P : β → (Nat → Nat → Int) → (Nat → Int → Int) → Prop} {x : zE (Int × β)} (h : mE T n K L I1 A1 W r' P x) (f : fi K I I1) (g : fr L A A1) (e : ∀ (h : qH), r' = some (.inl none, h) → r = some (.inl none, h)) : mE T n K L I A W r P x := by
  rcases x with ⟨k, p⟩ | ⟨e', v⟩
  · obtain ⟨I2, A2, y1, y2, y3, y4, y5, y6, y7⟩ := h
    exact mE.bad I2 A2 (f.tr y1) (g.tr y2) y3 y4 ⟨y5, y6⟩ (e _ y7)
  · obtain ⟨I2, A2, y1, y2, y3, y4, y5, y6⟩ := h
    exact mE.ok I2 A2 (f.tr y1) (g.tr y2) y3 y4 y5 (e _ y6)
theorem m_row2 (hd : 4 ≤ d) (h : mTx T n a I A) (hb5 : I 59 5 = -1) (hD : mD D I A) (hk : dOK D) (h5 : D.1 2 < 4) : mE T n qK5 qL5 I A W (q_call q_MT d 187 [.ref 59, .int (zI (lcs 2))] (zM I A W)) mD (rCu T n D a) := by
  obtain ⟨d, rfl⟩ : ∃ e, d = e + 1 := ⟨d - 1, by omega⟩
  have o0 : ∀ {h : qH} {kx : Nat → Nat → qH → qR} {k : Int32 → qH → qR}, q_rI (q_call q_MT d 174 [.float 0] h) kx k = k (zI (lcs 0)) h := fun {h kx k} => cI (m_ofs (by omega) (by decide))
  have n0 : (zI (lcs 2) = zI (lcs 0)) = False := eq_false (by decide)
  have o1 : ∀ {h : qH} {kx : Nat → Nat → qH → qR} {k : Int32 → qH → qR}, q_rI (q_call q_MT d 174 [.float 1] h) kx k = k (zI (lcs 1)) h := fun {h kx k} => cI (m_ofs (by omega) (by decide))
  have n1 : (zI (lcs 2) = zI (lcs 1)) = False := eq_false (by decide)
  have o3 : ∀ {h : qH} {kx : Nat → Nat → qH → qR} {k : Int32 → qH → qR}, q_rI (q_call q_MT d 174 [.float 3] h) kx k = k (zI (lcs 3)) h := fun {h kx k} => cI (m_ofs (by omega) (by decide))
  have n3 : (zI (lcs 2) = zI (lcs 3)) = False := eq_false (by decide)
  have o4 : ∀ {h : qH} {kx : Nat → Nat → qH → qR} {k : Int32 → qH → qR}, q_rI (q_call q_MT d 174 [.float 4] h) kx k = k (zI (lcs 4)) h := fun {h kx k} => cI (m_ofs (by omega) (by decide))
  have n4 : (zI (lcs 2) = zI (lcs 4)) = False := eq_false (by decide)
  refine (m_readCup (W := W) (d := d) (by omega) h hb5 hD hk h5).up fi.refl fr.refl (fun h e => ?_)
  rw [cl_X11_readRow]
  simp (implicitDefEqProofs := false) (disch := omega) only [↓rI_s, ↓rV_s, ↓rI_e, ↓rV_e, zc_eq, zc_ne, zc_lt, zc_ge, zc_gt, zc_le, zlt_t, zlt_f, zle_t, zle_f, zeq_t, zeq_f, lz, zadd, zsub, zmul, zneg, zb_e0, zb_e1, boo0, boo1, ua_s, ua_n, ua_ua, up_s, u2_s, u2_f, u2_c, u2_u2, Int.natCast_add, Int.zero_add, Int.add_zero, ↓reduceIte, ne_eq, not_true_eq_false, not_false_eq_true, Int.natCast_one, ↓k_X11_readRow_0, ↓o0, n0, ↓o3, n3, ↓o4, n4, ↓o1, n1, ↓mc_59, ↓cV e, ↓k_X11_readRow_173]
end MN
