--DEPS 75.trial 72.would
/-! Duels. -/
def hb (R : zR) (F : zF) (s : Int → Int) (w p o q : Int) : Int := paid R F s w p 0 + (if 0 ≤ dwn R F s w p 0 ∧ dwn R F s w p 0 = dwn R F s o q 0 ∧ cupAt R (dwn R F s w p 0) = -1 then (if w < o then -1 else 1) else 0)
theorem hb_b {R : zR} {F : zF} {s : Int → Int} {w p o q : Int} (hR : wR R) : -1 ≤ hb R F s w p o q ∧ hb R F s w p o q ≤ 100 := by
  have := paid_b (F := F) (s := s) (w := w) (p := p) (h := 0) hR
  unfold hb
  split
  · split <;> omega
  · omega
def rst (R : zR) (F : zF) (s : Int → Int) (w o p q : Int) : Bool := decide (∀ r : Nat, r < 9 → ¬ (hb R F s w p o q < hb R F s w ((r : Int) + 1) o q) ∧ ¬ (hb R F s o q w p < hb R F s o ((r : Int) + 1) w p))
abbrev dP (j : Nat) : Int := (j : Int) / 9 + 1
abbrev dQ (j : Nat) : Int := (j : Int) - (j : Int) / 9 * 9 + 1
def dlN (R : zR) (F : zF) (s : Int → Int) (w o : Int) : Nat → Int × Int
  | 0 => (0, -1)
  | j + 1 => if rst R F s w o (dP j) (dQ j) = true then ((dlN R F s w o j).1 + 1, if (dlN R F s w o j).2 = -1 then 10 * dP j + dQ j else (dlN R F s w o j).2) else dlN R F s w o j
def dlT (R : zR) (F : zF) (s : Int → Int) (w o f : Int) : Int := if f = -1 then 0 else hb R F s w (f / 10) o (f - f / 10 * 10) + hb R F s o (f - f / 10 * 10) w (f / 10)
theorem dlN_b {R : zR} {F : zF} {s : Int → Int} {w o : Int} : ∀ j : Nat, j ≤ 81 → 0 ≤ (dlN R F s w o j).1 ∧ (dlN R F s w o j).1 ≤ j ∧ ((dlN R F s w o j).1 = 0 ↔ (dlN R F s w o j).2 = -1) ∧ ((dlN R F s w o j).2 = -1 ∨ (11 ≤ (dlN R F s w o j).2 ∧ (dlN R F s w o j).2 ≤ 99 ∧ 1 ≤ (dlN R F s w o j).2 / 10 ∧ (dlN R F s w o j).2 / 10 ≤ 9 ∧ 1 ≤ (dlN R F s w o j).2 - (dlN R F s w o j).2 / 10 * 10))
  | 0, _ => by unfold dlN; dsimp only; omega
  | j + 1, hj => by
    have ih := dlN_b (R := R) (F := F) (s := s) (w := w) (o := o) j (by omega)
    have hP : 1 ≤ dP j ∧ dP j ≤ 9 := by show 1 ≤ (j : Int) / 9 + 1 ∧ (j : Int) / 9 + 1 ≤ 9; omega
    have hQ : 1 ≤ dQ j ∧ dQ j ≤ 9 := by show 1 ≤ (j : Int) - (j : Int) / 9 * 9 + 1 ∧ (j : Int) - (j : Int) / 9 * 9 + 1 ≤ 9; omega
    unfold dlN
    generalize dP j = a at hP ⊢
    generalize dQ j = b at hQ ⊢
    generalize dlN R F s w o j = x at ih ⊢
    obtain ⟨x1, x2⟩ := x
    dsimp only at ih ⊢
    obtain ⟨i1, i2, i3, i4⟩ := ih
    by_cases c : rst R F s w o a b = true
    · rw [if_pos c]
      dsimp only
      by_cases c2 : x2 = -1
      · rw [if_pos c2]
        exact ⟨by omega, by omega, ⟨fun h => by omega, fun h => by omega⟩, by omega⟩
      · rw [if_neg c2]
        exact ⟨by omega, by omega, ⟨fun h => by omega, fun h => by omega⟩, i4⟩
    · rw [if_neg c]
      exact ⟨i1, by dsimp only; omega, i3, i4⟩
def vDuel (R : zR) (F : zF) (s : Int → Int) (w o k : Int) : Int := if k = 0 then (dlN R F s w o 81).1 else if k = 1 then (dlN R F s w o 81).2 else dlT R F s w o (dlN R F s w o 81).2
section DU
variable {d : Nat} {I : Nat → Nat → Int} {A : Nat → Int → Int} {W : qWt} {R : zR} {F : zF} {s : Int → Int}
theorem dwn_b {w p h : Int} (hR : wR R) (hF : wF F) : -3 ≤ dwn R F s w p h ∧ dwn R F s w p h < 30 := by
  have := dn_c (s := s) (w := w) (p := p) (h := h) hR hF
  have := hR.2.2.2.2.1
  unfold dwn
  split <;> omega
theorem c_measure52 {w : Int} (hd : 5 ≤ d) (hX : cX R F s I A) (h0 : 0 ≤ w) (h1 : w < rW R) (hf : free R s w) : ∃ A', fr [22, 23, 52, 53] A A' ∧ (∀ p : Int, 1 ≤ p → p ≤ 9 → A' 52 p = dwn R F s w p 0 ∧ A' 53 p = paid R F s w p 0) ∧ q_call q_MT d 56 [.ref 51, .int (zI w), .ref 52, .ref 53] (zM I A W) = some (.inl none, zM I A' W) := by
  obtain ⟨d, rfl⟩ : ∃ e, d = e + 1 := ⟨d - 1, by omega⟩
  have hR := hX.1
  have hc4 := hR.1.2.2.1
  have hfe := hR.1.2.2.2.2.1
  have hV := hX.2.2.1.1
  have hF := hX.2.2.2.w
  have b1 := hX.2.1.1 w h0 h1
  rw [(enc_f hV.1 h0 h1).1 hf.1] at b1
  have pw := hV.1 w h0 h1
  have hw := hR.1.2.1
  rw [cl_X3_measure]
  simp (implicitDefEqProofs := false) (disch := omega) only [↓rI_s, ↓rV_s, ↓rI_e, ↓rV_e, zc_eq, zc_ne, zc_lt, zc_ge, zc_gt, zc_le, zlt_t, zlt_f, zle_t, zle_f, zeq_t, zeq_f, lz, zadd, zsub, zmul, zneg, zb_e0, zb_e1, boo0, boo1, ua_s, ua_n, ua_ua, up_s, u2_s, u2_f, u2_c, u2_u2, Int.natCast_add, Int.zero_add, Int.add_zero, ↓reduceIte, ne_eq, not_true_eq_false, not_false_eq_true, Int.natCast_one, ↓k_X3_measure_0]
  refine lp_x (fun j (B : (Nat → Int → Int) × Value × Value) => q_run qm_X3_measure (q_call q_MT d) 3 [.ref 51, .int (zI w), .ref 52, .ref 53, .int (zI (j + 1)), B.2.1, B.2.2] [] (zM I B.1 W)) (fun j B => fr [22, 23, 52, 53] A B.1 ∧ ∀ p : Int, 1 ≤ p → p ≤ j → B.1 52 p = dwn R F s w p 0 ∧ B.1 53 p = paid R F s w p 0) (fun r => ∃ A', fr [22, 23, 52, 53] A A' ∧ (∀ p : Int, 1 ≤ p → p ≤ 9 → A' 52 p = dwn R F s w p 0 ∧ A' 53 p = paid R F s w p 0) ∧ r = some (.inl none, zM I A' W)) 9 ?_ ?_ 0 (A, q_junk, q_junk) (by omega) ⟨fr.refl, fun p p0 p1 => by omega⟩
  · rintro ⟨B, l5, l6⟩ ⟨f, h⟩
    refine ⟨B, f, h, ?_⟩
    dsimp only
    rw [k_X3_measure_3]
    simp (implicitDefEqProofs := false) (disch := omega) only [↓rI_s, ↓rV_s, ↓rI_e, ↓rV_e, zc_eq, zc_ne, zc_lt, zc_ge, zc_gt, zc_le, zlt_t, zlt_f, zle_t, zle_f, zeq_t, zeq_f, lz, zadd, zsub, zmul, zneg, zb_e0, zb_e1, boo0, boo1, ua_s, ua_n, ua_ua, up_s, u2_s, u2_f, u2_c, u2_u2, Int.natCast_add, Int.zero_add, Int.add_zero, ↓reduceIte, ne_eq, not_true_eq_false, not_false_eq_true, Int.natCast_one, ↓zn_52, ↓zn_53, ↓k_X3_measure_95]
  · rintro j ⟨B, l5, l6⟩ hj ⟨f, h⟩
    dsimp only at f h ⊢
    have hXB := hX.t fi.refl (f.wd rfl)
    obtain ⟨B1, f1, e1⟩ := c24_landing (p := (j : Int) + 1) (h := 0) (W := W) (show 4 ≤ d by omega) hXB.1 hXB.2.1 hV.1 hXB.2.2.2 h0 h1 hf.1 (.inl rfl)
    have ed : dwn R F s w ((j : Int) + 1) 0 = dn R F s w ((j : Int) + 1) 0 := if_pos hf
    rw [← ed] at e1
    have db := dwn_b (s := s) (w := w) (p := (j : Int) + 1) (h := 0) hR.1 hF
    have b1' : B1 25 w = s w := by rw [f1 25 rfl, f 25 rfl]; exact b1
    have hR1 := hXB.1.fr f1 rfl
    have hp : ∀ x y : Int, ∀ p : Int, 1 ≤ p → p ≤ ((j + 1 : Nat) : Int) → x = dwn R F s w ((j : Int) + 1) 0 → y = paid R F s w ((j : Int) + 1) 0 → up (B1 52) ((j : Int) + 1) x p = dwn R F s w p 0 ∧ up (B1 53) ((j : Int) + 1) y p = paid R F s w p 0 := by
      intro x y p p0 p1 hx hy
      by_cases e : p = (j : Int) + 1
      · subst e; rw [up_s, up_s]; exact ⟨hx, hy⟩
      · rw [up_n e, up_n e, f1 52 rfl, f1 53 rfl]; exact h p p0 (by omega)
    rw [k_X3_measure_3]
    by_cases q : dwn R F s w ((j : Int) + 1) 0 = s w
    · have ec : chit R F s w ((j : Int) + 1) 0 = -1 := if_pos (.inr q)
      have ep : paid R F s w ((j : Int) + 1) 0 = 0 := if_pos ec
      refine .inr ⟨(ua (ua B1 52 (up (B1 52) ((j : Int) + 1) (dwn R F s w ((j : Int) + 1) 0))) 53 (up (B1 53) ((j : Int) + 1) 0), .int (zI (dwn R F s w ((j : Int) + 1) 0)), .int (zI (-1))), ⟨((f.tr (f1.wd rfl)).a rfl).a rfl, fun p p0 p1 => hp _ _ p p0 p1 rfl ep.symm⟩, ?_⟩
      simp (implicitDefEqProofs := false) (disch := omega) only [↓rI_s, ↓rV_s, ↓rI_e, ↓rV_e, zc_eq, zc_ne, zc_lt, zc_ge, zc_gt, zc_le, zlt_t, zlt_f, zle_t, zle_f, zeq_t, zeq_f, lz, zadd, zsub, zmul, zneg, zb_e0, zb_e1, boo0, boo1, ua_s, ua_n, ua_ua, up_s, u2_s, u2_f, u2_c, u2_u2, Int.natCast_add, Int.zero_add, Int.add_zero, ↓reduceIte, ne_eq, not_true_eq_false, not_false_eq_true, Int.natCast_one, ↓zn_52, ↓zn_53, ↓zg_51_1, ↓mc_24, e1, ↓zg_24_2, zl_25, b1', ↓k_X3_measure_57, ↓k_X3_measure_88, zs_52, zs_53]
    · have ec : chit R F s w ((j : Int) + 1) 0 = cupAt R (dwn R F s w ((j : Int) + 1) 0) := by
        unfold chit
        by_cases q2 : dwn R F s w ((j : Int) + 1) 0 < 0
        · rw [if_pos (.inl q2)]; exact (cupAt_off hR.1 (.inl q2)).symm
        · rw [if_neg (by omega)]
      have cb := chit_b (R := R) (F := F) (s := s) (w := w) (p := (j : Int) + 1) (h := 0)
      by_cases q3 : chit R F s w ((j : Int) + 1) 0 = -1
      · have ep : paid R F s w ((j : Int) + 1) 0 = 0 := if_pos q3
        refine .inr ⟨(ua (ua B1 52 (up (B1 52) ((j : Int) + 1) (dwn R F s w ((j : Int) + 1) 0))) 53 (up (B1 53) ((j : Int) + 1) 0), .int (zI (dwn R F s w ((j : Int) + 1) 0)), .int (zI (-1))), ⟨((f.tr (f1.wd rfl)).a rfl).a rfl, fun p p0 p1 => hp _ _ p p0 p1 rfl ep.symm⟩, ?_⟩
        simp (implicitDefEqProofs := false) (disch := omega) only [↓rI_s, ↓rV_s, ↓rI_e, ↓rV_e, zc_eq, zc_ne, zc_lt, zc_ge, zc_gt, zc_le, zlt_t, zlt_f, zle_t, zle_f, zeq_t, zeq_f, lz, zadd, zsub, zmul, zneg, zb_e0, zb_e1, boo0, boo1, ua_s, ua_n, ua_ua, up_s, u2_s, u2_f, u2_c, u2_u2, Int.natCast_add, Int.zero_add, Int.add_zero, ↓reduceIte, ne_eq, not_true_eq_false, not_false_eq_true, Int.natCast_one, ↓zn_52, ↓zn_53, ↓zg_51_1, ↓mc_24, e1, ↓zg_24_2, zl_25, b1', ↓zg_51_0, ↓mc_5]
        rw [c_cupAt (by omega) hR1 (by omega), ← ec, q3]
        simp (implicitDefEqProofs := false) (disch := omega) only [↓rI_s, ↓rV_s, ↓rI_e, ↓rV_e, zc_eq, zc_ne, zc_lt, zc_ge, zc_gt, zc_le, zlt_t, zlt_f, zle_t, zle_f, zeq_t, zeq_f, lz, zadd, zsub, zmul, zneg, zb_e0, zb_e1, boo0, boo1, ua_s, ua_n, ua_ua, up_s, u2_s, u2_f, u2_c, u2_u2, Int.natCast_add, Int.zero_add, Int.add_zero, ↓reduceIte, ne_eq, not_true_eq_false, not_false_eq_true, Int.natCast_one, ↓k_X3_measure_57, ↓k_X3_measure_88, zs_52, zs_53]
      · have ep : paid R F s w ((j : Int) + 1) 0 = rP R (chit R F s w ((j : Int) + 1) 0) := if_neg q3
        have erp := (hR1.fr (A' := ua B1 52 (up (B1 52) ((j : Int) + 1) (dwn R F s w ((j : Int) + 1) 0))) (L := [52]) (fr.refl.a rfl) rfl).2.2.2.2.2.2.2.2.2 _ (show 0 ≤ chit R F s w ((j : Int) + 1) 0 by omega) cb.2
        refine .inr ⟨(ua (ua B1 52 (up (B1 52) ((j : Int) + 1) (dwn R F s w ((j : Int) + 1) 0))) 53 (up (B1 53) ((j : Int) + 1) (paid R F s w ((j : Int) + 1) 0)), .int (zI (dwn R F s w ((j : Int) + 1) 0)), .int (zI (chit R F s w ((j : Int) + 1) 0))), ⟨((f.tr (f1.wd rfl)).a rfl).a rfl, fun p p0 p1 => hp _ _ p p0 p1 rfl rfl⟩, ?_⟩
        rw [ep]
        simp (implicitDefEqProofs := false) (disch := omega) only [↓rI_s, ↓rV_s, ↓rI_e, ↓rV_e, zc_eq, zc_ne, zc_lt, zc_ge, zc_gt, zc_le, zlt_t, zlt_f, zle_t, zle_f, zeq_t, zeq_f, lz, zadd, zsub, zmul, zneg, zb_e0, zb_e1, boo0, boo1, ua_s, ua_n, ua_ua, up_s, u2_s, u2_f, u2_c, u2_u2, Int.natCast_add, Int.zero_add, Int.add_zero, ↓reduceIte, ne_eq, not_true_eq_false, not_false_eq_true, Int.natCast_one, ↓zn_52, ↓zn_53, ↓zg_51_1, ↓mc_24, e1, ↓zg_24_2, zl_25, b1', ↓zg_51_0, ↓mc_5]
        rw [c_cupAt (by omega) hR1 (by omega), ← ec]
        rw [ua_n (by decide)] at erp
        simp (implicitDefEqProofs := false) (disch := omega) only [↓rI_s, ↓rV_s, ↓rI_e, ↓rV_e, zc_eq, zc_ne, zc_lt, zc_ge, zc_gt, zc_le, zlt_t, zlt_f, zle_t, zle_f, zeq_t, zeq_f, lz, zadd, zsub, zmul, zneg, zb_e0, zb_e1, boo0, boo1, ua_s, ua_n, ua_ua, up_s, u2_s, u2_f, u2_c, u2_u2, Int.natCast_add, Int.zero_add, Int.add_zero, ↓reduceIte, ne_eq, not_true_eq_false, not_false_eq_true, Int.natCast_one, ↓k_X3_measure_57, ↓k_X3_measure_88, zs_52, zs_53, ↓zg_51_0, ↓zg_5_10, zl_11, erp]
theorem c_measure54 {w : Int} (hd : 5 ≤ d) (hX : cX R F s I A) (h0 : 0 ≤ w) (h1 : w < rW R) (hf : free R s w) : ∃ A', fr [22, 23, 54, 55] A A' ∧ (∀ p : Int, 1 ≤ p → p ≤ 9 → A' 54 p = dwn R F s w p 0 ∧ A' 55 p = paid R F s w p 0) ∧ q_call q_MT d 56 [.ref 51, .int (zI w), .ref 54, .ref 55] (zM I A W) = some (.inl none, zM I A' W) := by
  obtain ⟨d, rfl⟩ : ∃ e, d = e + 1 := ⟨d - 1, by omega⟩
  have hR := hX.1
  have hc4 := hR.1.2.2.1
  have hfe := hR.1.2.2.2.2.1
  have hV := hX.2.2.1.1
  have hF := hX.2.2.2.w
  have b1 := hX.2.1.1 w h0 h1
  rw [(enc_f hV.1 h0 h1).1 hf.1] at b1
  have pw := hV.1 w h0 h1
  have hw := hR.1.2.1
  rw [cl_X3_measure]
  simp (implicitDefEqProofs := false) (disch := omega) only [↓rI_s, ↓rV_s, ↓rI_e, ↓rV_e, zc_eq, zc_ne, zc_lt, zc_ge, zc_gt, zc_le, zlt_t, zlt_f, zle_t, zle_f, zeq_t, zeq_f, lz, zadd, zsub, zmul, zneg, zb_e0, zb_e1, boo0, boo1, ua_s, ua_n, ua_ua, up_s, u2_s, u2_f, u2_c, u2_u2, Int.natCast_add, Int.zero_add, Int.add_zero, ↓reduceIte, ne_eq, not_true_eq_false, not_false_eq_true, Int.natCast_one, ↓k_X3_measure_0]
  refine lp_x (fun j (B : (Nat → Int → Int) × Value × Value) => q_run qm_X3_measure (q_call q_MT d) 3 [.ref 51, .int (zI w), .ref 54, .ref 55, .int (zI (j + 1)), B.2.1, B.2.2] [] (zM I B.1 W)) (fun j B => fr [22, 23, 54, 55] A B.1 ∧ ∀ p : Int, 1 ≤ p → p ≤ j → B.1 54 p = dwn R F s w p 0 ∧ B.1 55 p = paid R F s w p 0) (fun r => ∃ A', fr [22, 23, 54, 55] A A' ∧ (∀ p : Int, 1 ≤ p → p ≤ 9 → A' 54 p = dwn R F s w p 0 ∧ A' 55 p = paid R F s w p 0) ∧ r = some (.inl none, zM I A' W)) 9 ?_ ?_ 0 (A, q_junk, q_junk) (by omega) ⟨fr.refl, fun p p0 p1 => by omega⟩
  · rintro ⟨B, l5, l6⟩ ⟨f, h⟩
    refine ⟨B, f, h, ?_⟩
    dsimp only
    rw [k_X3_measure_3]
    simp (implicitDefEqProofs := false) (disch := omega) only [↓rI_s, ↓rV_s, ↓rI_e, ↓rV_e, zc_eq, zc_ne, zc_lt, zc_ge, zc_gt, zc_le, zlt_t, zlt_f, zle_t, zle_f, zeq_t, zeq_f, lz, zadd, zsub, zmul, zneg, zb_e0, zb_e1, boo0, boo1, ua_s, ua_n, ua_ua, up_s, u2_s, u2_f, u2_c, u2_u2, Int.natCast_add, Int.zero_add, Int.add_zero, ↓reduceIte, ne_eq, not_true_eq_false, not_false_eq_true, Int.natCast_one, ↓zn_54, ↓zn_55, ↓k_X3_measure_95]
  · rintro j ⟨B, l5, l6⟩ hj ⟨f, h⟩
    dsimp only at f h ⊢
    have hXB := hX.t fi.refl (f.wd rfl)
    obtain ⟨B1, f1, e1⟩ := c24_landing (p := (j : Int) + 1) (h := 0) (W := W) (show 4 ≤ d by omega) hXB.1 hXB.2.1 hV.1 hXB.2.2.2 h0 h1 hf.1 (.inl rfl)
    have ed : dwn R F s w ((j : Int) + 1) 0 = dn R F s w ((j : Int) + 1) 0 := if_pos hf
    rw [← ed] at e1
    have db := dwn_b (s := s) (w := w) (p := (j : Int) + 1) (h := 0) hR.1 hF
    have b1' : B1 25 w = s w := by rw [f1 25 rfl, f 25 rfl]; exact b1
    have hR1 := hXB.1.fr f1 rfl
    have hp : ∀ x y : Int, ∀ p : Int, 1 ≤ p → p ≤ ((j + 1 : Nat) : Int) → x = dwn R F s w ((j : Int) + 1) 0 → y = paid R F s w ((j : Int) + 1) 0 → up (B1 54) ((j : Int) + 1) x p = dwn R F s w p 0 ∧ up (B1 55) ((j : Int) + 1) y p = paid R F s w p 0 := by
      intro x y p p0 p1 hx hy
      by_cases e : p = (j : Int) + 1
      · subst e; rw [up_s, up_s]; exact ⟨hx, hy⟩
      · rw [up_n e, up_n e, f1 54 rfl, f1 55 rfl]; exact h p p0 (by omega)
    rw [k_X3_measure_3]
    by_cases q : dwn R F s w ((j : Int) + 1) 0 = s w
    · have ec : chit R F s w ((j : Int) + 1) 0 = -1 := if_pos (.inr q)
      have ep : paid R F s w ((j : Int) + 1) 0 = 0 := if_pos ec
      refine .inr ⟨(ua (ua B1 54 (up (B1 54) ((j : Int) + 1) (dwn R F s w ((j : Int) + 1) 0))) 55 (up (B1 55) ((j : Int) + 1) 0), .int (zI (dwn R F s w ((j : Int) + 1) 0)), .int (zI (-1))), ⟨((f.tr (f1.wd rfl)).a rfl).a rfl, fun p p0 p1 => hp _ _ p p0 p1 rfl ep.symm⟩, ?_⟩
      simp (implicitDefEqProofs := false) (disch := omega) only [↓rI_s, ↓rV_s, ↓rI_e, ↓rV_e, zc_eq, zc_ne, zc_lt, zc_ge, zc_gt, zc_le, zlt_t, zlt_f, zle_t, zle_f, zeq_t, zeq_f, lz, zadd, zsub, zmul, zneg, zb_e0, zb_e1, boo0, boo1, ua_s, ua_n, ua_ua, up_s, u2_s, u2_f, u2_c, u2_u2, Int.natCast_add, Int.zero_add, Int.add_zero, ↓reduceIte, ne_eq, not_true_eq_false, not_false_eq_true, Int.natCast_one, ↓zn_54, ↓zn_55, ↓zg_51_1, ↓mc_24, e1, ↓zg_24_2, zl_25, b1', ↓k_X3_measure_57, ↓k_X3_measure_88, zs_54, zs_55]
    · have ec : chit R F s w ((j : Int) + 1) 0 = cupAt R (dwn R F s w ((j : Int) + 1) 0) := by
        unfold chit
        by_cases q2 : dwn R F s w ((j : Int) + 1) 0 < 0
        · rw [if_pos (.inl q2)]; exact (cupAt_off hR.1 (.inl q2)).symm
        · rw [if_neg (by omega)]
      have cb := chit_b (R := R) (F := F) (s := s) (w := w) (p := (j : Int) + 1) (h := 0)
      by_cases q3 : chit R F s w ((j : Int) + 1) 0 = -1
      · have ep : paid R F s w ((j : Int) + 1) 0 = 0 := if_pos q3
        refine .inr ⟨(ua (ua B1 54 (up (B1 54) ((j : Int) + 1) (dwn R F s w ((j : Int) + 1) 0))) 55 (up (B1 55) ((j : Int) + 1) 0), .int (zI (dwn R F s w ((j : Int) + 1) 0)), .int (zI (-1))), ⟨((f.tr (f1.wd rfl)).a rfl).a rfl, fun p p0 p1 => hp _ _ p p0 p1 rfl ep.symm⟩, ?_⟩
        simp (implicitDefEqProofs := false) (disch := omega) only [↓rI_s, ↓rV_s, ↓rI_e, ↓rV_e, zc_eq, zc_ne, zc_lt, zc_ge, zc_gt, zc_le, zlt_t, zlt_f, zle_t, zle_f, zeq_t, zeq_f, lz, zadd, zsub, zmul, zneg, zb_e0, zb_e1, boo0, boo1, ua_s, ua_n, ua_ua, up_s, u2_s, u2_f, u2_c, u2_u2, Int.natCast_add, Int.zero_add, Int.add_zero, ↓reduceIte, ne_eq, not_true_eq_false, not_false_eq_true, Int.natCast_one, ↓zn_54, ↓zn_55, ↓zg_51_1, ↓mc_24, e1, ↓zg_24_2, zl_25, b1', ↓zg_51_0, ↓mc_5]
        rw [c_cupAt (by omega) hR1 (by omega), ← ec, q3]
        simp (implicitDefEqProofs := false) (disch := omega) only [↓rI_s, ↓rV_s, ↓rI_e, ↓rV_e, zc_eq, zc_ne, zc_lt, zc_ge, zc_gt, zc_le, zlt_t, zlt_f, zle_t, zle_f, zeq_t, zeq_f, lz, zadd, zsub, zmul, zneg, zb_e0, zb_e1, boo0, boo1, ua_s, ua_n, ua_ua, up_s, u2_s, u2_f, u2_c, u2_u2, Int.natCast_add, Int.zero_add, Int.add_zero, ↓reduceIte, ne_eq, not_true_eq_false, not_false_eq_true, Int.natCast_one, ↓k_X3_measure_57, ↓k_X3_measure_88, zs_54, zs_55]
      · have ep : paid R F s w ((j : Int) + 1) 0 = rP R (chit R F s w ((j : Int) + 1) 0) := if_neg q3
        have erp := (hR1.fr (A' := ua B1 54 (up (B1 54) ((j : Int) + 1) (dwn R F s w ((j : Int) + 1) 0))) (L := [54]) (fr.refl.a rfl) rfl).2.2.2.2.2.2.2.2.2 _ (show 0 ≤ chit R F s w ((j : Int) + 1) 0 by omega) cb.2
        refine .inr ⟨(ua (ua B1 54 (up (B1 54) ((j : Int) + 1) (dwn R F s w ((j : Int) + 1) 0))) 55 (up (B1 55) ((j : Int) + 1) (paid R F s w ((j : Int) + 1) 0)), .int (zI (dwn R F s w ((j : Int) + 1) 0)), .int (zI (chit R F s w ((j : Int) + 1) 0))), ⟨((f.tr (f1.wd rfl)).a rfl).a rfl, fun p p0 p1 => hp _ _ p p0 p1 rfl rfl⟩, ?_⟩
        rw [ep]
        simp (implicitDefEqProofs := false) (disch := omega) only [↓rI_s, ↓rV_s, ↓rI_e, ↓rV_e, zc_eq, zc_ne, zc_lt, zc_ge, zc_gt, zc_le, zlt_t, zlt_f, zle_t, zle_f, zeq_t, zeq_f, lz, zadd, zsub, zmul, zneg, zb_e0, zb_e1, boo0, boo1, ua_s, ua_n, ua_ua, up_s, u2_s, u2_f, u2_c, u2_u2, Int.natCast_add, Int.zero_add, Int.add_zero, ↓reduceIte, ne_eq, not_true_eq_false, not_false_eq_true, Int.natCast_one, ↓zn_54, ↓zn_55, ↓zg_51_1, ↓mc_24, e1, ↓zg_24_2, zl_25, b1', ↓zg_51_0, ↓mc_5]
        rw [c_cupAt (by omega) hR1 (by omega), ← ec]
        rw [ua_n (by decide)] at erp
        simp (implicitDefEqProofs := false) (disch := omega) only [↓rI_s, ↓rV_s, ↓rI_e, ↓rV_e, zc_eq, zc_ne, zc_lt, zc_ge, zc_gt, zc_le, zlt_t, zlt_f, zle_t, zle_f, zeq_t, zeq_f, lz, zadd, zsub, zmul, zneg, zb_e0, zb_e1, boo0, boo1, ua_s, ua_n, ua_ua, up_s, u2_s, u2_f, u2_c, u2_u2, Int.natCast_add, Int.zero_add, Int.add_zero, ↓reduceIte, ne_eq, not_true_eq_false, not_false_eq_true, Int.natCast_one, ↓k_X3_measure_57, ↓k_X3_measure_88, zs_54, zs_55, ↓zg_51_0, ↓zg_5_10, zl_11, erp]
/-- the duel's rows are measured -/
def dM (R : zR) (F : zF) (s : Int → Int) (w o : Int) (I : Nat → Nat → Int) (A : Nat → Int → Int) : Prop := cR R I A ∧ wF F ∧ (∀ p : Int, 1 ≤ p → p ≤ 9 → A 52 p = dwn R F s w p 0 ∧ A 53 p = paid R F s w p 0) ∧ (∀ p : Int, 1 ≤ p → p ≤ 9 → A 54 p = dwn R F s o p 0 ∧ A 55 p = paid R F s o p 0) ∧ w ≠ o ∧ I 51 6 = if w < o then -1 else 1
theorem c_clash {w o p q : Int} (hd : 2 ≤ d) (hM : dM R F s w o I A) (hp : 1 ≤ p ∧ p ≤ 9) (hq : 1 ≤ q ∧ q ≤ 9) : q_call q_MT d 61 [.ref 51, .int (zI p), .int (zI q)] (zM I A W) = some (.inl (some (.int (zI (if 0 ≤ dwn R F s w p 0 ∧ dwn R F s w p 0 = dwn R F s o q 0 ∧ cupAt R (dwn R F s w p 0) = -1 then 1 else 0)))), zM I A W) := by
  obtain ⟨d, rfl⟩ : ∃ e, d = e + 1 := ⟨d - 1, by omega⟩
  obtain ⟨hR, hF, h1, h2, -, -⟩ := hM
  have e1 := (h1 p hp.1 hp.2).1
  have e2 := (h2 q hq.1 hq.2).1
  have d1 := dwn_b (s := s) (w := w) (p := p) (h := 0) hR.1 hF
  have d2 := dwn_b (s := s) (w := o) (p := q) (h := 0) hR.1 hF
  have hc4 := hR.1.2.2.1
  have cl := cupAt_lo R (dwn R F s w p 0)
  have ch := cupAt_hi R (dwn R F s w p 0)
  rw [cl_X3_clash]
  by_cases q1 : dwn R F s w p 0 < 0
  · rw [if_neg (by omega)]
    simp (implicitDefEqProofs := false) (disch := omega) only [↓rI_s, ↓rV_s, ↓rI_e, ↓rV_e, zc_eq, zc_ne, zc_lt, zc_ge, zc_gt, zc_le, zlt_t, zlt_f, zle_t, zle_f, zeq_t, zeq_f, lz, zadd, zsub, zmul, zneg, zb_e0, zb_e1, boo0, boo1, ua_s, ua_n, ua_ua, up_s, u2_s, u2_f, u2_c, u2_u2, Int.natCast_add, Int.zero_add, Int.add_zero, ↓reduceIte, ne_eq, not_true_eq_false, not_false_eq_true, Int.natCast_one, ↓k_X3_clash_0, ↓k_X3_clash_37, ↓k_X3_clash_38, ↓zg_51_2, zl_52, zs_52, ↓zn_52, ↓zg_51_4, zl_54, zs_54, ↓zn_54, ↓zg_51_0, ↓mc_5, ↓mc_12, e1]
  · by_cases q2 : dwn R F s w p 0 = dwn R F s o q 0
    · simp (implicitDefEqProofs := false) (disch := omega) only [↓rI_s, ↓rV_s, ↓rI_e, ↓rV_e, zc_eq, zc_ne, zc_lt, zc_ge, zc_gt, zc_le, zlt_t, zlt_f, zle_t, zle_f, zeq_t, zeq_f, lz, zadd, zsub, zmul, zneg, zb_e0, zb_e1, boo0, boo1, ua_s, ua_n, ua_ua, up_s, u2_s, u2_f, u2_c, u2_u2, Int.natCast_add, Int.zero_add, Int.add_zero, ↓reduceIte, ne_eq, not_true_eq_false, not_false_eq_true, Int.natCast_one, ↓k_X3_clash_0, ↓zg_51_2, zl_52, e1, ↓zg_51_4, zl_54, e2, ↓zg_51_0, ↓mc_5]
      rw [c_cupAt (by omega) hR (by omega)]
      by_cases q3 : cupAt R (dwn R F s w p 0) = -1
      · rw [if_pos (show 0 ≤ dwn R F s w p 0 ∧ dwn R F s w p 0 = dwn R F s o q 0 ∧ cupAt R (dwn R F s w p 0) = -1 from ⟨by omega, q2, q3⟩)]
        simp (implicitDefEqProofs := false) (disch := omega) only [↓rI_s, ↓rV_s, ↓rI_e, ↓rV_e, zc_eq, zc_ne, zc_lt, zc_ge, zc_gt, zc_le, zlt_t, zlt_f, zle_t, zle_f, zeq_t, zeq_f, lz, zadd, zsub, zmul, zneg, zb_e0, zb_e1, boo0, boo1, ua_s, ua_n, ua_ua, up_s, u2_s, u2_f, u2_c, u2_u2, Int.natCast_add, Int.zero_add, Int.add_zero, ↓reduceIte, ne_eq, not_true_eq_false, not_false_eq_true, Int.natCast_one, ↓k_X3_clash_0, ↓k_X3_clash_37, ↓k_X3_clash_38, ↓zg_51_2, zl_52, zs_52, ↓zn_52, ↓zg_51_4, zl_54, zs_54, ↓zn_54, ↓zg_51_0, ↓mc_5, ↓mc_12]
      · rw [if_neg (show ¬ (0 ≤ dwn R F s w p 0 ∧ dwn R F s w p 0 = dwn R F s o q 0 ∧ cupAt R (dwn R F s w p 0) = -1) from fun q => q3 q.2.2)]
        simp (implicitDefEqProofs := false) (disch := omega) only [↓rI_s, ↓rV_s, ↓rI_e, ↓rV_e, zc_eq, zc_ne, zc_lt, zc_ge, zc_gt, zc_le, zlt_t, zlt_f, zle_t, zle_f, zeq_t, zeq_f, lz, zadd, zsub, zmul, zneg, zb_e0, zb_e1, boo0, boo1, ua_s, ua_n, ua_ua, up_s, u2_s, u2_f, u2_c, u2_u2, Int.natCast_add, Int.zero_add, Int.add_zero, ↓reduceIte, ne_eq, not_true_eq_false, not_false_eq_true, Int.natCast_one, ↓k_X3_clash_0, ↓k_X3_clash_37, ↓k_X3_clash_38, ↓zg_51_2, zl_52, zs_52, ↓zn_52, ↓zg_51_4, zl_54, zs_54, ↓zn_54, ↓zg_51_0, ↓mc_5, ↓mc_12]
    · rw [if_neg (show ¬ (0 ≤ dwn R F s w p 0 ∧ dwn R F s w p 0 = dwn R F s o q 0 ∧ cupAt R (dwn R F s w p 0) = -1) from fun q => q2 q.2.1)]
      simp (implicitDefEqProofs := false) (disch := omega) only [↓rI_s, ↓rV_s, ↓rI_e, ↓rV_e, zc_eq, zc_ne, zc_lt, zc_ge, zc_gt, zc_le, zlt_t, zlt_f, zle_t, zle_f, zeq_t, zeq_f, lz, zadd, zsub, zmul, zneg, zb_e0, zb_e1, boo0, boo1, ua_s, ua_n, ua_ua, up_s, u2_s, u2_f, u2_c, u2_u2, Int.natCast_add, Int.zero_add, Int.add_zero, ↓reduceIte, ne_eq, not_true_eq_false, not_false_eq_true, Int.natCast_one, ↓k_X3_clash_0, ↓k_X3_clash_37, ↓k_X3_clash_38, ↓zg_51_2, zl_52, zs_52, ↓zn_52, ↓zg_51_4, zl_54, zs_54, ↓zn_54, ↓zg_51_0, ↓mc_5, ↓mc_12, e1, e2]
theorem c_oneHas {w o p q : Int} (hd : 3 ≤ d) (hM : dM R F s w o I A) (hp : 1 ≤ p ∧ p ≤ 9) (hq : 1 ≤ q ∧ q ≤ 9) : q_call q_MT d 59 [.ref 51, .int (zI p), .int (zI q)] (zM I A W) = some (.inl (some (.int (zI (hb R F s w p o q)))), zM I A W) := by
  obtain ⟨d, rfl⟩ : ∃ e, d = e + 1 := ⟨d - 1, by omega⟩
  have e := c_clash (W := W) (show 2 ≤ d by omega) hM hp hq
  obtain ⟨hR, hF, h1, h2, hne, h6⟩ := hM
  have e1 := (h1 p hp.1 hp.2).2
  rw [cl_X3_oneHas]
  simp (implicitDefEqProofs := false) (disch := omega) only [↓rI_s, ↓rV_s, ↓rI_e, ↓rV_e, zc_eq, zc_ne, zc_lt, zc_ge, zc_gt, zc_le, zlt_t, zlt_f, zle_t, zle_f, zeq_t, zeq_f, lz, zadd, zsub, zmul, zneg, zb_e0, zb_e1, boo0, boo1, ua_s, ua_n, ua_ua, up_s, u2_s, u2_f, u2_c, u2_u2, Int.natCast_add, Int.zero_add, Int.add_zero, ↓reduceIte, ne_eq, not_true_eq_false, not_false_eq_true, Int.natCast_one, ↓k_X3_oneHas_0, ↓zg_51_3, zl_53, zs_53, ↓zn_53, ↓mc_51, ↓zg_51_6, e1, e, h6]
  refine rz ?_
  unfold hb
  split
  · omega
  · omega
theorem c_otherHas {w o p q : Int} (hd : 3 ≤ d) (hM : dM R F s w o I A) (hp : 1 ≤ p ∧ p ≤ 9) (hq : 1 ≤ q ∧ q ≤ 9) : q_call q_MT d 60 [.ref 51, .int (zI p), .int (zI q)] (zM I A W) = some (.inl (some (.int (zI (hb R F s o q w p)))), zM I A W) := by
  obtain ⟨d, rfl⟩ : ∃ e, d = e + 1 := ⟨d - 1, by omega⟩
  have e := c_clash (W := W) (show 2 ≤ d by omega) hM hp hq
  obtain ⟨hR, hF, h1, h2, hne, h6⟩ := hM
  have e1 := (h2 q hq.1 hq.2).2
  rw [cl_X3_otherHas]
  simp (implicitDefEqProofs := false) (disch := omega) only [↓rI_s, ↓rV_s, ↓rI_e, ↓rV_e, zc_eq, zc_ne, zc_lt, zc_ge, zc_gt, zc_le, zlt_t, zlt_f, zle_t, zle_f, zeq_t, zeq_f, lz, zadd, zsub, zmul, zneg, zb_e0, zb_e1, boo0, boo1, ua_s, ua_n, ua_ua, up_s, u2_s, u2_f, u2_c, u2_u2, Int.natCast_add, Int.zero_add, Int.add_zero, ↓reduceIte, ne_eq, not_true_eq_false, not_false_eq_true, Int.natCast_one, ↓k_X3_otherHas_0, ↓zg_51_5, zl_55, zs_55, ↓zn_55, ↓mc_51, ↓zg_51_6, e1, e, h6]
  refine rz ?_
  unfold hb
  by_cases c : 0 ≤ dwn R F s w p 0 ∧ dwn R F s w p 0 = dwn R F s o q 0 ∧ cupAt R (dwn R F s w p 0) = -1
  · rw [if_pos c, if_pos (show 0 ≤ dwn R F s o q 0 ∧ dwn R F s o q 0 = dwn R F s w p 0 ∧ cupAt R (dwn R F s o q 0) = -1 from ⟨by omega, c.2.1.symm, by rw [← c.2.1]; exact c.2.2⟩)]
    split <;> split <;> omega
  · rw [if_neg c, if_neg (show ¬ (0 ≤ dwn R F s o q 0 ∧ dwn R F s o q 0 = dwn R F s w p 0 ∧ cupAt R (dwn R F s o q 0) = -1) from fun q => c ⟨by omega, q.2.1.symm, by rw [← q.2.1]; exact q.2.2⟩)]
    omega
theorem c_isRest {w o p q : Int} (hd : 4 ≤ d) (hM : dM R F s w o I A) (hp : 1 ≤ p ∧ p ≤ 9) (hq : 1 ≤ q ∧ q ≤ 9) : q_call q_MT d 58 [.ref 51, .int (zI p), .int (zI q)] (zM I A W) = some (.inl (some (.int (zI (if rst R F s w o p q = true then 1 else 0)))), zM I A W) := by
  obtain ⟨d, rfl⟩ : ∃ e, d = e + 1 := ⟨d - 1, by omega⟩
  have e1 := c_oneHas (W := W) (show 3 ≤ d by omega) hM hp hq
  have e2 := c_otherHas (W := W) (show 3 ≤ d by omega) hM hp hq
  have b1 := hb_b (F := F) (s := s) (w := w) (p := p) (o := o) (q := q) hM.1.1
  have b2 := hb_b (F := F) (s := s) (w := o) (p := q) (o := w) (q := p) hM.1.1
  rw [cl_X3_isRest]
  simp (implicitDefEqProofs := false) (disch := omega) only [↓rI_s, ↓rV_s, ↓rI_e, ↓rV_e, zc_eq, zc_ne, zc_lt, zc_ge, zc_gt, zc_le, zlt_t, zlt_f, zle_t, zle_f, zeq_t, zeq_f, lz, zadd, zsub, zmul, zneg, zb_e0, zb_e1, boo0, boo1, ua_s, ua_n, ua_ua, up_s, u2_s, u2_f, u2_c, u2_u2, Int.natCast_add, Int.zero_add, Int.add_zero, ↓reduceIte, ne_eq, not_true_eq_false, not_false_eq_true, Int.natCast_one, ↓k_X3_isRest_0, ↓mc_51, e1, e2]
  refine lp_x (fun j (_ : Unit) => q_run qm_X3_isRest (q_call q_MT d) 18 [.ref 51, .int (zI p), .int (zI q), .int (zI (hb R F s w p o q)), .int (zI (hb R F s o q w p)), .int (zI (j + 1))] [] (zM I A W)) (fun j _ => ∀ r : Nat, r < j → ¬ (hb R F s w p o q < hb R F s w ((r : Int) + 1) o q) ∧ ¬ (hb R F s o q w p < hb R F s o ((r : Int) + 1) w p)) (fun r => r = _) 9 ?_ ?_ 0 () (by omega) (fun r hr => by omega)
  · intro _ h
    rw [k_X3_isRest_18, if_pos (show rst R F s w o p q = true from decide_eq_true h)]
    simp (implicitDefEqProofs := false) (disch := omega) only [↓rI_s, ↓rV_s, ↓rI_e, ↓rV_e, zc_eq, zc_ne, zc_lt, zc_ge, zc_gt, zc_le, zlt_t, zlt_f, zle_t, zle_f, zeq_t, zeq_f, lz, zadd, zsub, zmul, zneg, zb_e0, zb_e1, boo0, boo1, ua_s, ua_n, ua_ua, up_s, u2_s, u2_f, u2_c, u2_u2, Int.natCast_add, Int.zero_add, Int.add_zero, ↓reduceIte, ne_eq, not_true_eq_false, not_false_eq_true, Int.natCast_one]
  · intro j _ hj h
    have e3 := c_oneHas (p := (j : Int) + 1) (q := q) (W := W) (show 3 ≤ d by omega) hM (by omega) hq
    have e4 := c_otherHas (p := p) (q := (j : Int) + 1) (W := W) (show 3 ≤ d by omega) hM hp (by omega)
    have b3 := hb_b (F := F) (s := s) (w := w) (p := (j : Int) + 1) (o := o) (q := q) hM.1.1
    have b4 := hb_b (F := F) (s := s) (w := o) (p := (j : Int) + 1) (o := w) (q := p) hM.1.1
    rw [k_X3_isRest_18]
    by_cases q1 : hb R F s w p o q < hb R F s w ((j : Int) + 1) o q
    · refine .inl ?_
      rw [if_neg (show ¬ rst R F s w o p q = true from fun q => (of_decide_eq_true q j hj).1 q1)]
      simp (implicitDefEqProofs := false) (disch := omega) only [↓rI_s, ↓rV_s, ↓rI_e, ↓rV_e, zc_eq, zc_ne, zc_lt, zc_ge, zc_gt, zc_le, zlt_t, zlt_f, zle_t, zle_f, zeq_t, zeq_f, lz, zadd, zsub, zmul, zneg, zb_e0, zb_e1, boo0, boo1, ua_s, ua_n, ua_ua, up_s, u2_s, u2_f, u2_c, u2_u2, Int.natCast_add, Int.zero_add, Int.add_zero, ↓reduceIte, ne_eq, not_true_eq_false, not_false_eq_true, Int.natCast_one, ↓mc_51, e3, ↓k_X3_isRest_48]
    · by_cases q2 : hb R F s o q w p < hb R F s o ((j : Int) + 1) w p
      · refine .inl ?_
        rw [if_neg (show ¬ rst R F s w o p q = true from fun q => (of_decide_eq_true q j hj).2 q2)]
        simp (implicitDefEqProofs := false) (disch := omega) only [↓rI_s, ↓rV_s, ↓rI_e, ↓rV_e, zc_eq, zc_ne, zc_lt, zc_ge, zc_gt, zc_le, zlt_t, zlt_f, zle_t, zle_f, zeq_t, zeq_f, lz, zadd, zsub, zmul, zneg, zb_e0, zb_e1, boo0, boo1, ua_s, ua_n, ua_ua, up_s, u2_s, u2_f, u2_c, u2_u2, Int.natCast_add, Int.zero_add, Int.add_zero, ↓reduceIte, ne_eq, not_true_eq_false, not_false_eq_true, Int.natCast_one, ↓mc_51, e3, e4, ↓k_X3_isRest_48]
      · refine .inr ⟨(), fun r hr => ?_, ?_⟩
        · by_cases e : r = j
          · subst e; exact ⟨q1, q2⟩
          · exact h r (by omega)
        · simp (implicitDefEqProofs := false) (disch := omega) only [↓rI_s, ↓rV_s, ↓rI_e, ↓rV_e, zc_eq, zc_ne, zc_lt, zc_ge, zc_gt, zc_le, zlt_t, zlt_f, zle_t, zle_f, zeq_t, zeq_f, lz, zadd, zsub, zmul, zneg, zb_e0, zb_e1, boo0, boo1, ua_s, ua_n, ua_ua, up_s, u2_s, u2_f, u2_c, u2_u2, Int.natCast_add, Int.zero_add, Int.add_zero, ↓reduceIte, ne_eq, not_true_eq_false, not_false_eq_true, Int.natCast_one, ↓mc_51, e3, e4]
theorem dM.t {w o : Int} {I I' : Nat → Nat → Int} (h : dM R F s w o I A) (f : fi [(51, 7), (51, 8), (51, 9)] I I') : dM R F s w o I' A := ⟨h.1.fi f rfl, h.2.1, h.2.2.1, h.2.2.2.1, h.2.2.2.2.1, by rw [f 51 6 rfl]; exact h.2.2.2.2.2⟩
abbrev dI (R : zR) (F : zF) (s : Int → Int) (w o : Int) (I : Nat → Nat → Int) (j : Nat) : Nat → Nat → Int := u2 (u2 (u2 I 51 7 (dlN R F s w o j).1) 51 8 (dlN R F s w o j).2) 51 9 (dlT R F s w o (dlN R F s w o j).2)
theorem u2_3 {I : Nat → Nat → Int} {a b c a' b' c' : Int} : u2 (u2 (u2 (u2 (u2 (u2 I 51 7 a) 51 8 b) 51 9 c) 51 8 b') 51 9 c') 51 7 a' = u2 (u2 (u2 I 51 7 a') 51 8 b') 51 9 c' := by
  funext x f
  by_cases e : x = 51
  · subst e
    by_cases e7 : f = 7
    · subst e7; rw [u2_s, u2_f (by decide), u2_f (by decide), u2_s]
    · rw [u2_f e7]
      by_cases e9 : f = 9
      · subst e9; rw [u2_s, u2_s]
      · rw [u2_f e9, u2_f e9]
        by_cases e8 : f = 8
        · subst e8; rw [u2_s, u2_s]
        · rw [u2_f e8, u2_f e8, u2_f e9, u2_f e8, u2_f e7, u2_f e7]
  · rw [u2_c e, u2_c e, u2_c e, u2_c e, u2_c e, u2_c e, u2_c e, u2_c e, u2_c e]
theorem u2_1 {I : Nat → Nat → Int} {a b c a' : Int} : u2 (u2 (u2 (u2 I 51 7 a) 51 8 b) 51 9 c) 51 7 a' = u2 (u2 (u2 I 51 7 a') 51 8 b) 51 9 c := by
  funext x f
  by_cases e : x = 51
  · subst e
    by_cases e7 : f = 7
    · subst e7; rw [u2_s, u2_f (by decide), u2_f (by decide), u2_s]
    · rw [u2_f e7]
      by_cases e9 : f = 9
      · subst e9; rw [u2_s, u2_s]
      · rw [u2_f e9, u2_f e9]
        by_cases e8 : f = 8
        · subst e8; rw [u2_s, u2_s]
        · rw [u2_f e8, u2_f e8, u2_f e7, u2_f e7]
  · rw [u2_c e, u2_c e, u2_c e, u2_c e, u2_c e, u2_c e, u2_c e]
theorem c_note {w o : Int} {j : Nat} (hd : 4 ≤ d) (hM : dM R F s w o I A) (hj : j < 81) (hr : rst R F s w o (dP j) (dQ j) = true) : q_call q_MT d 57 [.ref 51, .int (zI (dP j)), .int (zI (dQ j))] (zM (dI R F s w o I j) A W) = some (.inl none, zM (dI R F s w o I (j + 1)) A W) := by
  obtain ⟨d, rfl⟩ : ∃ e, d = e + 1 := ⟨d - 1, by omega⟩
  have hb1 := dlN_b (R := R) (F := F) (s := s) (w := w) (o := o) j (by omega)
  have hP : 1 ≤ dP j ∧ dP j ≤ 9 := by show 1 ≤ (j : Int) / 9 + 1 ∧ (j : Int) / 9 + 1 ≤ 9; omega
  have hQ : 1 ≤ dQ j ∧ dQ j ≤ 9 := by show 1 ≤ (j : Int) - (j : Int) / 9 * 9 + 1 ∧ (j : Int) - (j : Int) / 9 * 9 + 1 ≤ 9; omega
  have es : dlN R F s w o (j + 1) = ((dlN R F s w o j).1 + 1, if (dlN R F s w o j).2 = -1 then 10 * dP j + dQ j else (dlN R F s w o j).2) := if_pos hr
  unfold dI
  rw [cl_X3_note, es]
  dsimp only
  generalize dP j = a at hP ⊢
  generalize dQ j = b at hQ ⊢
  generalize dlN R F s w o j = x at hb1 ⊢
  obtain ⟨x1, x2⟩ := x
  dsimp only at hb1 ⊢
  obtain ⟨i1, i2, i3, i4⟩ := hb1
  by_cases q : x1 = 0
  · have q2 := i3.mp q
    subst q
    subst q2
    have hM2 : dM R F s w o (u2 (u2 (u2 (u2 I 51 7 0) 51 8 (-1)) 51 9 (dlT R F s w o (-1))) 51 8 (10 * a + b)) A := hM.t ((((fi.refl.f rfl).f rfl).f rfl).f rfl)
    have e1 := c_oneHas (W := W) (show 3 ≤ d by omega) hM2 hP hQ
    have e2 := c_otherHas (W := W) (show 3 ≤ d by omega) hM2 hP hQ
    have et : dlT R F s w o (10 * a + b) = hb R F s w a o b + hb R F s o b w a := by
      unfold dlT
      rw [if_neg (by omega), show (10 * a + b) / 10 = a by omega, show 10 * a + b - a * 10 = b by omega]
    rw [if_pos rfl, et]
    simp (implicitDefEqProofs := false) (disch := omega) only [↓rI_s, ↓rV_s, ↓rI_e, ↓rV_e, zc_eq, zc_ne, zc_lt, zc_ge, zc_gt, zc_le, zlt_t, zlt_f, zle_t, zle_f, zeq_t, zeq_f, lz, zadd, zsub, zmul, zneg, zb_e0, zb_e1, boo0, boo1, ua_s, ua_n, ua_ua, up_s, u2_s, u2_f, u2_c, u2_u2, Int.natCast_add, Int.zero_add, Int.add_zero, ↓reduceIte, ne_eq, not_true_eq_false, not_false_eq_true, Int.natCast_one, ↓k_X3_note_0, ↓zg_51_7, ↓zp_51_8, ↓mc_51, e1, e2, ↓zp_51_9, ↓k_X3_note_34, ↓zp_51_7, u2_3]
  · have q2 : ¬ x2 = -1 := fun h => q (i3.mpr h)
    rw [if_neg q2]
    simp (implicitDefEqProofs := false) (disch := omega) only [↓rI_s, ↓rV_s, ↓rI_e, ↓rV_e, zc_eq, zc_ne, zc_lt, zc_ge, zc_gt, zc_le, zlt_t, zlt_f, zle_t, zle_f, zeq_t, zeq_f, lz, zadd, zsub, zmul, zneg, zb_e0, zb_e1, boo0, boo1, ua_s, ua_n, ua_ua, up_s, u2_s, u2_f, u2_c, u2_u2, Int.natCast_add, Int.zero_add, Int.add_zero, ↓reduceIte, ne_eq, not_true_eq_false, not_false_eq_true, Int.natCast_one, ↓k_X3_note_0, ↓zg_51_7, ↓k_X3_note_34, ↓zp_51_7, u2_1]
theorem c_fight {w o : Int} (hd : 6 ≤ d) (hX : cX R F s I A) (h0 : 0 ≤ w ∧ w < rW R) (h1 : 0 ≤ o ∧ o < rW R) (hn : w ≠ o) (hw : free R s w) (ho : free R s o) : ∃ I' A', fi [(51, 6), (51, 7), (51, 8), (51, 9)] I I' ∧ fr [22, 23, 52, 53, 54, 55] A A' ∧ I' 51 7 = (dlN R F s w o 81).1 ∧ I' 51 8 = (dlN R F s w o 81).2 ∧ I' 51 9 = dlT R F s w o (dlN R F s w o 81).2 ∧ q_call q_MT d 55 [.ref 51, .int (zI w), .int (zI o)] (zM I A W) = some (.inl none, zM I' A' W) := by
  obtain ⟨d, rfl⟩ : ∃ e, d = e + 1 := ⟨d - 1, by omega⟩
  have h10 := hX.1.1.2.1
  let I0 := u2 I 51 6 (if w < o then -1 else 1)
  have f0 : fi [(51, 6), (51, 7), (51, 8), (51, 9)] I (dI R F s w o I0 0) := (((fi.refl.f rfl).f rfl).f rfl).f rfl
  have hX0 : cX R F s (dI R F s w o I0 0) A := hX.t (f0.wd rfl) fr.refl
  obtain ⟨A1, f1, m1, e1⟩ := c_measure52 (W := W) (show 5 ≤ d by omega) hX0 h0.1 h0.2 hw
  obtain ⟨A2, f2, m2, e2⟩ := c_measure54 (W := W) (show 5 ≤ d by omega) (hX0.t fi.refl (f1.wd rfl)) h1.1 h1.2 ho
  have hM : dM R F s w o I0 A2 := by
    refine ⟨((hX.1.fi (K := [(51, 6)]) (fi.refl.f rfl) rfl).fr f1 rfl).fr f2 rfl, hX.2.2.2.w, fun p p0 p1 => ?_, m2, hn, u2_s⟩
    rw [f2 52 rfl, f2 53 rfl]; exact m1 p p0 p1
  have e11 : ∀ l3 l4 : Value, q_run qm_X3_fight (q_call q_MT d) 11 [.ref 51, .int (zI w), .int (zI o), l3, l4] [.int (zI (if w < o then -1 else 1)), .ref 51] (zM I A W) = q_run qm_X3_fight (q_call q_MT d) 57 [.ref 51, .int (zI w), .int (zI o), .int (zI 1), l4] [] (zM (dI R F s w o I0 0) A2 W) := by
    intro l3 l4
    have eI : dI R F s w o I0 0 = u2 (u2 (u2 (u2 I 51 6 (if w < o then -1 else 1)) 51 7 0) 51 8 (-1)) 51 9 0 := rfl
    rw [eI] at e1 e2
    rw [k_X3_fight_11, eI]
    simp (implicitDefEqProofs := false) (disch := omega) only [↓rI_s, ↓rV_s, ↓rI_e, ↓rV_e, zc_eq, zc_ne, zc_lt, zc_ge, zc_gt, zc_le, zlt_t, zlt_f, zle_t, zle_f, zeq_t, zeq_f, lz, zadd, zsub, zmul, zneg, zb_e0, zb_e1, boo0, boo1, ua_s, ua_n, ua_ua, up_s, u2_s, u2_f, u2_c, u2_u2, Int.natCast_add, Int.zero_add, Int.add_zero, ↓reduceIte, ne_eq, not_true_eq_false, not_false_eq_true, Int.natCast_one, ↓zp_51_6, ↓zp_51_7, ↓zp_51_8, ↓zp_51_9, ↓zg_51_2, ↓zg_51_3, ↓zg_51_4, ↓zg_51_5, ↓mc_51, e1, e2]
  have inner : ∀ (p : Nat) (l4 : Value), p < 9 → ∃ l4', q_run qm_X3_fight (q_call q_MT d) 57 [.ref 51, .int (zI w), .int (zI o), .int (zI ((p : Int) + 1)), l4] [] (zM (dI R F s w o I0 (9 * p)) A2 W) = q_run qm_X3_fight (q_call q_MT d) 57 [.ref 51, .int (zI w), .int (zI o), .int (zI ((p : Int) + 1 + 1)), l4'] [] (zM (dI R F s w o I0 (9 * p + 9)) A2 W) := by
    intro p l4 hp
    rw [k_X3_fight_57]
    have e57 : (if q_cmp .gt (zI ((p : Int) + 1)) (9 : Int32) = true then (some (.inl none, zM (dI R F s w o I0 (9 * p)) A2 W) : qR) else q_run qm_X3_fight (q_call q_MT d) 66 [.ref 51, .int (zI w), .int (zI o), .int (zI ((p : Int) + 1)), .int (1 : Int32)] [] (zM (dI R F s w o I0 (9 * p)) A2 W)) = q_run qm_X3_fight (q_call q_MT d) 66 [.ref 51, .int (zI w), .int (zI o), .int (zI ((p : Int) + 1)), .int (zI 1)] [] (zM (dI R F s w o I0 (9 * p)) A2 W) := by simp (implicitDefEqProofs := false) (disch := omega) only [↓rI_s, ↓rV_s, ↓rI_e, ↓rV_e, zc_eq, zc_ne, zc_lt, zc_ge, zc_gt, zc_le, zlt_t, zlt_f, zle_t, zle_f, zeq_t, zeq_f, lz, zadd, zsub, zmul, zneg, zb_e0, zb_e1, boo0, boo1, ua_s, ua_n, ua_ua, up_s, u2_s, u2_f, u2_c, u2_u2, Int.natCast_add, Int.zero_add, Int.add_zero, ↓reduceIte, ne_eq, not_true_eq_false, not_false_eq_true, Int.natCast_one]
    rw [e57]
    refine lp_x (fun q (_ : Unit) => q_run qm_X3_fight (q_call q_MT d) 66 [.ref 51, .int (zI w), .int (zI o), .int (zI ((p : Int) + 1)), .int (zI (q + 1))] [] (zM (dI R F s w o I0 (9 * p + q)) A2 W)) (fun _ _ => True) (fun r => ∃ l4', r = q_run qm_X3_fight (q_call q_MT d) 57 [.ref 51, .int (zI w), .int (zI o), .int (zI ((p : Int) + 1 + 1)), l4'] [] (zM (dI R F s w o I0 (9 * p + 9)) A2 W)) 9 ?_ ?_ 0 () (by omega) trivial
    · intro _ _
      refine ⟨.int (zI (((9 : Nat) : Int) + 1)), ?_⟩
      rw [k_X3_fight_66]
      simp (implicitDefEqProofs := false) (disch := omega) only [↓rI_s, ↓rV_s, ↓rI_e, ↓rV_e, zc_eq, zc_ne, zc_lt, zc_ge, zc_gt, zc_le, zlt_t, zlt_f, zle_t, zle_f, zeq_t, zeq_f, lz, zadd, zsub, zmul, zneg, zb_e0, zb_e1, boo0, boo1, ua_s, ua_n, ua_ua, up_s, u2_s, u2_f, u2_c, u2_u2, Int.natCast_add, Int.zero_add, Int.add_zero, ↓reduceIte, ne_eq, not_true_eq_false, not_false_eq_true, Int.natCast_one]
    · intro q _ hq _
      refine .inr ⟨(), trivial, ?_⟩
      have hMj : dM R F s w o (dI R F s w o I0 (9 * p + q)) A2 := hM.t (((fi.refl.f rfl).f rfl).f rfl)
      have xP : dP (9 * p + q) = (p : Int) + 1 := by show ((9 * p + q : Nat) : Int) / 9 + 1 = _; omega
      have xQ : dQ (9 * p + q) = (q : Int) + 1 := by show ((9 * p + q : Nat) : Int) - ((9 * p + q : Nat) : Int) / 9 * 9 + 1 = _; omega
      have e3 := c_isRest (p := (p : Int) + 1) (q := (q : Int) + 1) (W := W) (show 4 ≤ d by omega) hMj (by omega) (by omega)
      rw [k_X3_fight_66]
      by_cases c : rst R F s w o ((p : Int) + 1) ((q : Int) + 1) = true
      · rw [if_pos c] at e3
        have e4 := c_note (j := 9 * p + q) (W := W) (show 4 ≤ d by omega) hM (by omega) (by rw [xP, xQ]; exact c)
        rw [xP, xQ] at e4
        simp (implicitDefEqProofs := false) (disch := omega) only [↓rI_s, ↓rV_s, ↓rI_e, ↓rV_e, zc_eq, zc_ne, zc_lt, zc_ge, zc_gt, zc_le, zlt_t, zlt_f, zle_t, zle_f, zeq_t, zeq_f, lz, zadd, zsub, zmul, zneg, zb_e0, zb_e1, boo0, boo1, ua_s, ua_n, ua_ua, up_s, u2_s, u2_f, u2_c, u2_u2, Int.natCast_add, Int.zero_add, Int.add_zero, ↓reduceIte, ne_eq, not_true_eq_false, not_false_eq_true, Int.natCast_one, ↓mc_51, e3, e4, ↓k_X3_fight_90]
        rfl
      · rw [if_neg c] at e3
        have es : dlN R F s w o (9 * p + (q + 1)) = dlN R F s w o (9 * p + q) := by
          have cn : ¬ rst R F s w o (dP (9 * p + q)) (dQ (9 * p + q)) = true := by rw [xP, xQ]; exact c
          exact if_neg cn
        have eI : dI R F s w o I0 (9 * p + (q + 1)) = dI R F s w o I0 (9 * p + q) := by unfold dI; rw [es]
        rw [eI]
        simp (implicitDefEqProofs := false) (disch := omega) only [↓rI_s, ↓rV_s, ↓rI_e, ↓rV_e, zc_eq, zc_ne, zc_lt, zc_ge, zc_gt, zc_le, zlt_t, zlt_f, zle_t, zle_f, zeq_t, zeq_f, lz, zadd, zsub, zmul, zneg, zb_e0, zb_e1, boo0, boo1, ua_s, ua_n, ua_ua, up_s, u2_s, u2_f, u2_c, u2_u2, Int.natCast_add, Int.zero_add, Int.add_zero, ↓reduceIte, ne_eq, not_true_eq_false, not_false_eq_true, Int.natCast_one, ↓mc_51, e3, ↓k_X3_fight_90]
  have outer : ∃ l4, q_run qm_X3_fight (q_call q_MT d) 57 [.ref 51, .int (zI w), .int (zI o), .int (zI 1), q_junk] [] (zM (dI R F s w o I0 0) A2 W) = q_run qm_X3_fight (q_call q_MT d) 57 [.ref 51, .int (zI w), .int (zI o), .int (zI (((9 : Nat) : Int) + 1)), l4] [] (zM (dI R F s w o I0 81) A2 W) := by
    obtain ⟨l, -, e⟩ := lp_g (fun p (l4 : Value) => q_run qm_X3_fight (q_call q_MT d) 57 [.ref 51, .int (zI w), .int (zI o), .int (zI ((p : Int) + 1)), l4] [] (zM (dI R F s w o I0 (9 * p)) A2 W)) (fun _ _ => True) 9 (fun p l4 hp _ => by
      obtain ⟨l4', e⟩ := inner p l4 hp
      exact ⟨l4', trivial, e⟩) 0 q_junk (by omega) trivial
    exact ⟨l, e⟩
  obtain ⟨l4, eo⟩ := outer
  refine ⟨dI R F s w o I0 81, A2, (((fi.refl.f rfl).f rfl).f rfl).f rfl, (f1.wd rfl).tr (f2.wd rfl), by unfold dI; rw [u2_f (by decide), u2_f (by decide), u2_s], by unfold dI; rw [u2_f (by decide), u2_s], by unfold dI; rw [u2_s], ?_⟩
  have fin : q_run qm_X3_fight (q_call q_MT d) 57 [.ref 51, .int (zI w), .int (zI o), .int (zI (((9 : Nat) : Int) + 1)), l4] [] (zM (dI R F s w o I0 81) A2 W) = some (.inl none, zM (dI R F s w o I0 81) A2 W) := by
    rw [k_X3_fight_57]
    simp (implicitDefEqProofs := false) (disch := omega) only [↓rI_s, ↓rV_s, ↓rI_e, ↓rV_e, zc_eq, zc_ne, zc_lt, zc_ge, zc_gt, zc_le, zlt_t, zlt_f, zle_t, zle_f, zeq_t, zeq_f, lz, zadd, zsub, zmul, zneg, zb_e0, zb_e1, boo0, boo1, ua_s, ua_n, ua_ua, up_s, u2_s, u2_f, u2_c, u2_u2, Int.natCast_add, Int.zero_add, Int.add_zero, ↓reduceIte, ne_eq, not_true_eq_false, not_false_eq_true, Int.natCast_one]
  rw [cl_X3_fight, k_X3_fight_0]
  by_cases q : w < o
  · rw [if_pos q] at e11
    simp (implicitDefEqProofs := false) (disch := omega) only [↓rI_s, ↓rV_s, ↓rI_e, ↓rV_e, zc_eq, zc_ne, zc_lt, zc_ge, zc_gt, zc_le, zlt_t, zlt_f, zle_t, zle_f, zeq_t, zeq_f, lz, zadd, zsub, zmul, zneg, zb_e0, zb_e1, boo0, boo1, ua_s, ua_n, ua_ua, up_s, u2_s, u2_f, u2_c, u2_u2, Int.natCast_add, Int.zero_add, Int.add_zero, ↓reduceIte, ne_eq, not_true_eq_false, not_false_eq_true, Int.natCast_one]
    rw [e11, eo, fin]
  · rw [if_neg q] at e11
    simp (implicitDefEqProofs := false) (disch := omega) only [↓rI_s, ↓rV_s, ↓rI_e, ↓rV_e, zc_eq, zc_ne, zc_lt, zc_ge, zc_gt, zc_le, zlt_t, zlt_f, zle_t, zle_f, zeq_t, zeq_f, lz, zadd, zsub, zmul, zneg, zb_e0, zb_e1, boo0, boo1, ua_s, ua_n, ua_ua, up_s, u2_s, u2_f, u2_c, u2_u2, Int.natCast_add, Int.zero_add, Int.add_zero, ↓reduceIte, ne_eq, not_true_eq_false, not_false_eq_true, Int.natCast_one]
    rw [e11, eo, fin]
theorem C_duel {w o k : Int} (hd : 8 ≤ d) (hX : cX R F s I A) (h0 : wI w) (h1 : wI o) (h2 : wI k) : cOut I A W (q_call q_MT d 137 [.ref 2, .int (zI w), .int (zI o), .int (zI k)] (zM I A W)) (if (0 ≤ w ∧ w < rW R) ∧ (0 ≤ o ∧ o < rW R) then (if (0 ≤ k ∧ k ≤ 2) ∧ w ≠ o ∧ free R s w ∧ free R s o then 0 else 2) else 1) (vDuel R F s w o k) := by
  obtain ⟨d, rfl⟩ : ∃ e, d = e + 1 := ⟨d - 1, by omega⟩
  have hR := hX.1
  have hV := hX.2.2.1.1
  rw [cl_X10_duel]
  by_cases c1 : 0 ≤ w ∧ w < rW R
  · by_cases c2 : 0 ≤ o ∧ o < rW R
    · rw [if_pos ⟨c1, c2⟩]
      by_cases c3 : 0 ≤ k ∧ k ≤ 2
      · by_cases c4 : w = o
        · rw [if_neg (fun q => q.2.1 c4)]
          exact cOut.il (by simp (implicitDefEqProofs := false) (disch := omega) only [↓rI_s, ↓rV_s, ↓rI_e, ↓rV_e, zc_eq, zc_ne, zc_lt, zc_ge, zc_gt, zc_le, zlt_t, zlt_f, zle_t, zle_f, zeq_t, zeq_f, lz, zadd, zsub, zmul, zneg, zb_e0, zb_e1, boo0, boo1, ua_s, ua_n, ua_ua, up_s, u2_s, u2_f, u2_c, u2_u2, Int.natCast_add, Int.zero_add, Int.add_zero, ↓reduceIte, ne_eq, not_true_eq_false, not_false_eq_true, Int.natCast_one, ↓k_X10_duel_0, ↓k_X10_duel_48, ↓k_X10_duel_49, ↓mc_2, s_needWink (show 2 ≤ d by omega) hR, s_needWink_f (show 2 ≤ d by omega) hR, s_needCup (show 2 ≤ d by omega) hR, s_needCup_f (show 2 ≤ d by omega) hR, s_needHouse (show 2 ≤ d by omega) hR, s_needHouse_f (show 2 ≤ d by omega) hR, s_needThere, s_needThere_f, s_needPress, s_needPress_f, s_needWhat, s_needWhat_f, s_needWithin, s_needWithin_f, s_need1, s_need0, t0_0, t0_1])
        · have i1 := fun kx k => c24_isFree (I := I) (A := A) (W := W) (kx := kx) (k := k) (show 2 ≤ d by omega) hR hX.2.1 hV.1 c1.1 c1.2
          have i2 := fun kx k => c24_isFree (I := I) (A := A) (W := W) (kx := kx) (k := k) (show 2 ≤ d by omega) hR hX.2.1 hV.1 c2.1 c2.2
          by_cases c5 : free R s w
          · simp only [zb_t c5] at i1
            by_cases c6 : free R s o
            · simp only [zb_t c6] at i2
              rw [if_pos ⟨c3, c4, c5, c6⟩]
              obtain ⟨I', A', f, g, e7, e8, e9, e⟩ := c_fight (W := W) (show 6 ≤ d by omega) hX c1 c2 c4 c5 c6
              refine cOut.ok (f.wd rfl) (g.wd rfl) ?_
              have : k = 0 ∨ k = 1 ∨ k = 2 := by omega
              rcases this with rfl | rfl | rfl
              · have ev : vDuel R F s w o 0 = (dlN R F s w o 81).1 := if_pos rfl
                rw [ev]
                simp (implicitDefEqProofs := false) (disch := omega) only [↓rI_s, ↓rV_s, ↓rI_e, ↓rV_e, zc_eq, zc_ne, zc_lt, zc_ge, zc_gt, zc_le, zlt_t, zlt_f, zle_t, zle_f, zeq_t, zeq_f, lz, zadd, zsub, zmul, zneg, zb_e0, zb_e1, boo0, boo1, ua_s, ua_n, ua_ua, up_s, u2_s, u2_f, u2_c, u2_u2, Int.natCast_add, Int.zero_add, Int.add_zero, ↓reduceIte, ne_eq, not_true_eq_false, not_false_eq_true, Int.natCast_one, ↓k_X10_duel_0, ↓zg_2_6, ↓mc_24, ↓i1, ↓i2, ↓k_X10_duel_49, ↓mc_2, s_needWink (show 2 ≤ d by omega) hR, s_needWink_f (show 2 ≤ d by omega) hR, s_needCup (show 2 ≤ d by omega) hR, s_needCup_f (show 2 ≤ d by omega) hR, s_needHouse (show 2 ≤ d by omega) hR, s_needHouse_f (show 2 ≤ d by omega) hR, s_needThere, s_needThere_f, s_needPress, s_needPress_f, s_needWhat, s_needWhat_f, s_needWithin, s_needWithin_f, s_need1, s_need0, t0_0, t0_1, ↓zg_2_9, ↓mc_51, e, ↓zg_51_7, e7, ↓k_X10_duel_95]
              · have ev : vDuel R F s w o 1 = (dlN R F s w o 81).2 := by unfold vDuel; rw [if_neg (by decide), if_pos rfl]
                rw [ev]
                simp (implicitDefEqProofs := false) (disch := omega) only [↓rI_s, ↓rV_s, ↓rI_e, ↓rV_e, zc_eq, zc_ne, zc_lt, zc_ge, zc_gt, zc_le, zlt_t, zlt_f, zle_t, zle_f, zeq_t, zeq_f, lz, zadd, zsub, zmul, zneg, zb_e0, zb_e1, boo0, boo1, ua_s, ua_n, ua_ua, up_s, u2_s, u2_f, u2_c, u2_u2, Int.natCast_add, Int.zero_add, Int.add_zero, ↓reduceIte, ne_eq, not_true_eq_false, not_false_eq_true, Int.natCast_one, ↓k_X10_duel_0, ↓zg_2_6, ↓mc_24, ↓i1, ↓i2, ↓k_X10_duel_49, ↓mc_2, s_needWink (show 2 ≤ d by omega) hR, s_needWink_f (show 2 ≤ d by omega) hR, s_needCup (show 2 ≤ d by omega) hR, s_needCup_f (show 2 ≤ d by omega) hR, s_needHouse (show 2 ≤ d by omega) hR, s_needHouse_f (show 2 ≤ d by omega) hR, s_needThere, s_needThere_f, s_needPress, s_needPress_f, s_needWhat, s_needWhat_f, s_needWithin, s_needWithin_f, s_need1, s_need0, t0_0, t0_1, ↓zg_2_9, ↓mc_51, e, ↓zg_51_8, e8, ↓k_X10_duel_95]
              · have ev : vDuel R F s w o 2 = dlT R F s w o (dlN R F s w o 81).2 := by unfold vDuel; rw [if_neg (by decide), if_neg (by decide)]
                rw [ev]
                simp (implicitDefEqProofs := false) (disch := omega) only [↓rI_s, ↓rV_s, ↓rI_e, ↓rV_e, zc_eq, zc_ne, zc_lt, zc_ge, zc_gt, zc_le, zlt_t, zlt_f, zle_t, zle_f, zeq_t, zeq_f, lz, zadd, zsub, zmul, zneg, zb_e0, zb_e1, boo0, boo1, ua_s, ua_n, ua_ua, up_s, u2_s, u2_f, u2_c, u2_u2, Int.natCast_add, Int.zero_add, Int.add_zero, ↓reduceIte, ne_eq, not_true_eq_false, not_false_eq_true, Int.natCast_one, ↓k_X10_duel_0, ↓zg_2_6, ↓mc_24, ↓i1, ↓i2, ↓k_X10_duel_49, ↓mc_2, s_needWink (show 2 ≤ d by omega) hR, s_needWink_f (show 2 ≤ d by omega) hR, s_needCup (show 2 ≤ d by omega) hR, s_needCup_f (show 2 ≤ d by omega) hR, s_needHouse (show 2 ≤ d by omega) hR, s_needHouse_f (show 2 ≤ d by omega) hR, s_needThere, s_needThere_f, s_needPress, s_needPress_f, s_needWhat, s_needWhat_f, s_needWithin, s_needWithin_f, s_need1, s_need0, t0_0, t0_1, ↓zg_2_9, ↓mc_51, e, ↓zg_51_9, e9, ↓k_X10_duel_95]
            · simp only [zb_f c6] at i2
              rw [if_neg (fun q => c6 q.2.2.2)]
              exact cOut.il (by simp (implicitDefEqProofs := false) (disch := omega) only [↓rI_s, ↓rV_s, ↓rI_e, ↓rV_e, zc_eq, zc_ne, zc_lt, zc_ge, zc_gt, zc_le, zlt_t, zlt_f, zle_t, zle_f, zeq_t, zeq_f, lz, zadd, zsub, zmul, zneg, zb_e0, zb_e1, boo0, boo1, ua_s, ua_n, ua_ua, up_s, u2_s, u2_f, u2_c, u2_u2, Int.natCast_add, Int.zero_add, Int.add_zero, ↓reduceIte, ne_eq, not_true_eq_false, not_false_eq_true, Int.natCast_one, ↓k_X10_duel_0, ↓zg_2_6, ↓mc_24, ↓i1, ↓i2, ↓k_X10_duel_48, ↓k_X10_duel_49, ↓mc_2, s_needWink (show 2 ≤ d by omega) hR, s_needWink_f (show 2 ≤ d by omega) hR, s_needCup (show 2 ≤ d by omega) hR, s_needCup_f (show 2 ≤ d by omega) hR, s_needHouse (show 2 ≤ d by omega) hR, s_needHouse_f (show 2 ≤ d by omega) hR, s_needThere, s_needThere_f, s_needPress, s_needPress_f, s_needWhat, s_needWhat_f, s_needWithin, s_needWithin_f, s_need1, s_need0, t0_0, t0_1])
          · simp only [zb_f c5] at i1
            rw [if_neg (fun q => c5 q.2.2.1)]
            exact cOut.il (by simp (implicitDefEqProofs := false) (disch := omega) only [↓rI_s, ↓rV_s, ↓rI_e, ↓rV_e, zc_eq, zc_ne, zc_lt, zc_ge, zc_gt, zc_le, zlt_t, zlt_f, zle_t, zle_f, zeq_t, zeq_f, lz, zadd, zsub, zmul, zneg, zb_e0, zb_e1, boo0, boo1, ua_s, ua_n, ua_ua, up_s, u2_s, u2_f, u2_c, u2_u2, Int.natCast_add, Int.zero_add, Int.add_zero, ↓reduceIte, ne_eq, not_true_eq_false, not_false_eq_true, Int.natCast_one, ↓k_X10_duel_0, ↓zg_2_6, ↓mc_24, ↓i1, ↓k_X10_duel_48, ↓k_X10_duel_49, ↓mc_2, s_needWink (show 2 ≤ d by omega) hR, s_needWink_f (show 2 ≤ d by omega) hR, s_needCup (show 2 ≤ d by omega) hR, s_needCup_f (show 2 ≤ d by omega) hR, s_needHouse (show 2 ≤ d by omega) hR, s_needHouse_f (show 2 ≤ d by omega) hR, s_needThere, s_needThere_f, s_needPress, s_needPress_f, s_needWhat, s_needWhat_f, s_needWithin, s_needWithin_f, s_need1, s_need0, t0_0, t0_1])
      · rw [if_neg (fun q => c3 q.1)]
        exact cOut.il (by simp (implicitDefEqProofs := false) (disch := omega) only [↓rI_s, ↓rV_s, ↓rI_e, ↓rV_e, zc_eq, zc_ne, zc_lt, zc_ge, zc_gt, zc_le, zlt_t, zlt_f, zle_t, zle_f, zeq_t, zeq_f, lz, zadd, zsub, zmul, zneg, zb_e0, zb_e1, boo0, boo1, ua_s, ua_n, ua_ua, up_s, u2_s, u2_f, u2_c, u2_u2, Int.natCast_add, Int.zero_add, Int.add_zero, ↓reduceIte, ne_eq, not_true_eq_false, not_false_eq_true, Int.natCast_one, ↓k_X10_duel_0, ↓mc_2, s_needWink (show 2 ≤ d by omega) hR, s_needWink_f (show 2 ≤ d by omega) hR, s_needCup (show 2 ≤ d by omega) hR, s_needCup_f (show 2 ≤ d by omega) hR, s_needHouse (show 2 ≤ d by omega) hR, s_needHouse_f (show 2 ≤ d by omega) hR, s_needThere, s_needThere_f, s_needPress, s_needPress_f, s_needWhat, s_needWhat_f, s_needWithin, s_needWithin_f, s_need1, s_need0, t0_0, t0_1])
    · rw [if_neg (fun q => c2 q.2)]
      exact cOut.ns (by simp (implicitDefEqProofs := false) (disch := omega) only [↓rI_s, ↓rV_s, ↓rI_e, ↓rV_e, zc_eq, zc_ne, zc_lt, zc_ge, zc_gt, zc_le, zlt_t, zlt_f, zle_t, zle_f, zeq_t, zeq_f, lz, zadd, zsub, zmul, zneg, zb_e0, zb_e1, boo0, boo1, ua_s, ua_n, ua_ua, up_s, u2_s, u2_f, u2_c, u2_u2, Int.natCast_add, Int.zero_add, Int.add_zero, ↓reduceIte, ne_eq, not_true_eq_false, not_false_eq_true, Int.natCast_one, ↓k_X10_duel_0, ↓mc_2, s_needWink (show 2 ≤ d by omega) hR, s_needWink_f (show 2 ≤ d by omega) hR, s_needCup (show 2 ≤ d by omega) hR, s_needCup_f (show 2 ≤ d by omega) hR, s_needHouse (show 2 ≤ d by omega) hR, s_needHouse_f (show 2 ≤ d by omega) hR, s_needThere, s_needThere_f, s_needPress, s_needPress_f, s_needWhat, s_needWhat_f, s_needWithin, s_needWithin_f, s_need1, s_need0, t0_0, t0_1])
  · rw [if_neg (fun q => c1 q.1)]
    exact cOut.ns (by simp (implicitDefEqProofs := false) (disch := omega) only [↓rI_s, ↓rV_s, ↓rI_e, ↓rV_e, zc_eq, zc_ne, zc_lt, zc_ge, zc_gt, zc_le, zlt_t, zlt_f, zle_t, zle_f, zeq_t, zeq_f, lz, zadd, zsub, zmul, zneg, zb_e0, zb_e1, boo0, boo1, ua_s, ua_n, ua_ua, up_s, u2_s, u2_f, u2_c, u2_u2, Int.natCast_add, Int.zero_add, Int.add_zero, ↓reduceIte, ne_eq, not_true_eq_false, not_false_eq_true, Int.natCast_one, ↓k_X10_duel_0, ↓mc_2, s_needWink (show 2 ≤ d by omega) hR, s_needWink_f (show 2 ≤ d by omega) hR, s_needCup (show 2 ≤ d by omega) hR, s_needCup_f (show 2 ≤ d by omega) hR, s_needHouse (show 2 ≤ d by omega) hR, s_needHouse_f (show 2 ≤ d by omega) hR, s_needThere, s_needThere_f, s_needPress, s_needPress_f, s_needWhat, s_needWhat_f, s_needWithin, s_needWithin_f, s_need1, s_need0, t0_0, t0_1])
end DU
