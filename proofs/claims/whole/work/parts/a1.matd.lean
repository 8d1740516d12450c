--DEPS a0.matc
theorem htB_b {C n : Nat} {M : Nat → Nat → Bool} {P : Nat → Int} (hP : ∀ c, c < C → 1 ≤ P c ∧ P c ≤ 99) : ∀ {k : Nat} {u : Nat → Bool}, k ≤ C → 0 ≤ htB C n M P k u ∧ htB C n M P k u ≤ 99 * k
  | 0, _, _ => by show (0 : Int) ≤ 0 ∧ (0 : Int) ≤ _; omega
  | k + 1, u, hk => by
    have hp := hP (C - (k + 1)) (by omega)
    have ih := fun u => htB_b (n := n) (M := M) hP (k := k) (u := u) (by omega)
    have i0 := ih u
    show 0 ≤ htX (fun w => M (C - (k + 1)) w && !u w) (fun w => P (C - (k + 1)) + htB C n M P k (htA u w)) (htB C n M P k u) n ∧ htX (fun w => M (C - (k + 1)) w && !u w) (fun w => P (C - (k + 1)) + htB C n M P k (htA u w)) (htB C n M P k u) n ≤ _
    rcases htX_e (f := fun w => M (C - (k + 1)) w && !u w) (g := fun w => P (C - (k + 1)) + htB C n M P k (htA u w)) (z := htB C n M P k u) (n := n) with h | ⟨w, h1, h2, h3⟩
    · rw [h]; omega
    · have i1 := ih (htA u w)
      rw [h3]; omega
section MD
variable {d : Nat} {I : Nat → Nat → Int} {A : Nat → Int → Int} {W : qWt} {R : zR} {F : zF} {s : Int → Int} {M : Nat → Nat → Bool} {u : Nat → Bool}
theorem c_bestFrom {f k : Nat} (hd : 3 ≤ d) (hR : cR R I A) (hf : f + k = rC R) (hM : ∀ c : Nat, c < rC R → A 49 c = bts (rW R) (M c)) : q_call q_MT d 14 [.ref 45, .int (zI f), .int (zI (bts (rW R) u))] (zM I A W) = some (.inl (some (.int (zI (htB (rC R) (rW R) M (rPn R) k u)))), zM I A W) := by
  obtain ⟨d, rfl⟩ : ∃ e, d = e + 1 := ⟨d - 1, by omega⟩
  have hc4 := hR.1.2.2.1
  have hw := hR.1.2.1
  have e2 := hR.2.2.2.1
  have h16 : 2 ^ rC R ≤ 2 ^ 4 := Nat.pow_le_pow_right (by decide) hc4
  have es := sh4 (n := rC R) hc4
  obtain ⟨N, hN⟩ : ∃ N, N = 2 ^ rC R := ⟨_, rfl⟩
  rw [← hN] at h16 es
  have h16' : N ≤ 16 := h16
  rw [cl_X0_bestFrom]
  simp (implicitDefEqProofs := false) (disch := omega) only [↓rI_s, ↓rV_s, ↓rI_e, ↓rV_e, zc_eq, zc_ne, zc_lt, zc_ge, zc_gt, zc_le, zlt_t, zlt_f, zle_t, zle_f, zeq_t, zeq_f, lz, zadd, zsub, zmul, zneg, zb_e0, zb_e1, boo0, boo1, ua_s, ua_n, ua_ua, up_s, u2_s, u2_f, u2_c, u2_u2, Int.natCast_add, Int.zero_add, Int.add_zero, ↓reduceIte, ne_eq, not_true_eq_false, not_false_eq_true, Int.natCast_one, ↓k_X0_bestFrom_0]
  refine lp_x (fun j (a : Int × Value) => q_run qm_X0_bestFrom (q_call q_MT d) 5 [.ref 45, .int (zI f), .int (zI (bts (rW R) u)), .int (zI a.1), .int (zI j), a.2] [] (zM I A W)) (fun j a => 0 ≤ a.1 ∧ a.1 ≤ 400 ∧ (∃ S : Nat → Bool, (∀ i, S i = true → f ≤ i ∧ i < rC R) ∧ htH (rC R) (rW R) M S u ∧ htP (rPn R) S (rC R) = a.1) ∧ ∀ m, m < j → (∀ i, tbN m i = true → f ≤ i) → htH (rC R) (rW R) M (tbN m) u → htP (rPn R) (tbN m) (rC R) ≤ a.1) (fun r => r = _) N ?_ ?_ 0 (0, q_junk) (by omega) ?_
  · rintro ⟨a, l5⟩ ⟨a0, a1, a2, a3⟩
    have hi : htI (rC R) (rW R) M (rPn R) f u a := ⟨a2, fun S hS hH => by
      obtain ⟨m, m1, m2⟩ := tbN_all (n := rC R) (S := S) fun i hi => (hS i hi).2
      subst m2
      exact a3 m (by rw [hN]; exact m1) (fun i hi => (hS i hi).1) hH⟩
    have hb := htB_I (C := rC R) (n := rW R) (M := M) (P := rPn R) (k := k) (u := u) (by omega)
    rw [show rC R - k = f by omega] at hb
    rw [← hi.uq hb, k_X0_bestFrom_5]
    simp (implicitDefEqProofs := false) (disch := omega) only [↓rI_s, ↓rV_s, ↓rI_e, ↓rV_e, zc_eq, zc_ne, zc_lt, zc_ge, zc_gt, zc_le, zlt_t, zlt_f, zle_t, zle_f, zeq_t, zeq_f, lz, zadd, zsub, zmul, zneg, zb_e0, zb_e1, boo0, boo1, ua_s, ua_n, ua_ua, up_s, u2_s, u2_f, u2_c, u2_u2, Int.natCast_add, Int.zero_add, Int.add_zero, ↓reduceIte, ne_eq, not_true_eq_false, not_false_eq_true, Int.natCast_one, ↓zg_45_0, ↓zg_5_2, e2, es, Int.le_refl]
  · rintro j ⟨a, l5⟩ hjN ⟨a0, a1, a2, a3⟩
    have hj : j < 2 ^ rC R := by rw [← hN]; exact hjN
    dsimp only at a0 a1 a2 a3 ⊢
    have low := bts_low hc4 (show f ≤ 4 by omega) hj
    have pb := htP_b hR.1 (S := tbN j) (k := rC R) (Nat.le_refl _)
    have py := c_paysOf (W := W) (d := d) (m := j) (by omega) hR hj
    obtain ⟨v, hv, ca⟩ := c_canAll (W := W) (d := d) (m := j) (u := u) (by omega) hR hj hM
    rw [k_X0_bestFrom_5]
    by_cases q : ∀ i, tbN j i = true → f ≤ i
    · have low' := (iff_of_eq low).mpr q
      by_cases g : htP (rPn R) (tbN j) (rC R) ≤ a
      · refine .inr ⟨(a, .int (zI (htP (rPn R) (tbN j) (rC R)))), ⟨a0, a1, a2, fun m m1 m2 m3 => ?_⟩, ?_⟩
        · by_cases e : m = j
          · subst e; exact g
          · exact a3 m (by omega) m2 m3
        · simp (implicitDefEqProofs := false) (disch := omega) only [↓rI_s, ↓rV_s, ↓rI_e, ↓rV_e, zc_eq, zc_ne, zc_lt, zc_ge, zc_gt, zc_le, zlt_t, zlt_f, zle_t, zle_f, zeq_t, zeq_f, lz, zadd, zsub, zmul, zneg, zb_e0, zb_e1, boo0, boo1, ua_s, ua_n, ua_ua, up_s, u2_s, u2_f, u2_c, u2_u2, Int.natCast_add, Int.zero_add, Int.add_zero, ↓reduceIte, ne_eq, not_true_eq_false, not_false_eq_true, Int.natCast_one, ↓zg_45_0, ↓zg_5_2, e2, es, low', ↓mc_45, ↓cI py, ↓k_X0_bestFrom_57]
      · rcases hv with ⟨rfl, hv⟩ | ⟨rfl, hv⟩
        · refine .inr ⟨(htP (rPn R) (tbN j) (rC R), .int (zI (htP (rPn R) (tbN j) (rC R)))), ⟨pb.1, by dsimp only; omega, ⟨tbN j, fun i hi => ⟨q i hi, tbN_lt hj hi⟩, hv, rfl⟩, fun m m1 m2 m3 => ?_⟩, ?_⟩
          · by_cases e : m = j
            · subst e; exact Int.le_refl _
            · have := a3 m (by omega) m2 m3
              dsimp only; omega
          · simp (implicitDefEqProofs := false) (disch := omega) only [↓rI_s, ↓rV_s, ↓rI_e, ↓rV_e, zc_eq, zc_ne, zc_lt, zc_ge, zc_gt, zc_le, zlt_t, zlt_f, zle_t, zle_f, zeq_t, zeq_f, lz, zadd, zsub, zmul, zneg, zb_e0, zb_e1, boo0, boo1, ua_s, ua_n, ua_ua, up_s, u2_s, u2_f, u2_c, u2_u2, Int.natCast_add, Int.zero_add, Int.add_zero, ↓reduceIte, ne_eq, not_true_eq_false, not_false_eq_true, Int.natCast_one, ↓zg_45_0, ↓zg_5_2, e2, es, low', ↓mc_45, ↓cI py, ↓cI ca, ↓k_X0_bestFrom_57]
        · refine .inr ⟨(a, .int (zI (htP (rPn R) (tbN j) (rC R)))), ⟨a0, a1, a2, fun m m1 m2 m3 => ?_⟩, ?_⟩
          · by_cases e : m = j
            · subst e; exact absurd m3 hv
            · exact a3 m (by omega) m2 m3
          · simp (implicitDefEqProofs := false) (disch := omega) only [↓rI_s, ↓rV_s, ↓rI_e, ↓rV_e, zc_eq, zc_ne, zc_lt, zc_ge, zc_gt, zc_le, zlt_t, zlt_f, zle_t, zle_f, zeq_t, zeq_f, lz, zadd, zsub, zmul, zneg, zb_e0, zb_e1, boo0, boo1, ua_s, ua_n, ua_ua, up_s, u2_s, u2_f, u2_c, u2_u2, Int.natCast_add, Int.zero_add, Int.add_zero, ↓reduceIte, ne_eq, not_true_eq_false, not_false_eq_true, Int.natCast_one, ↓zg_45_0, ↓zg_5_2, e2, es, low', ↓mc_45, ↓cI py, ↓cI ca, ↓k_X0_bestFrom_57]
    · have low' : ¬ (zI (j : Int) &&& (zI 1 <<< (zI (f : Int) &&& zI 31) - zI 1) = zI 0) := fun r => q ((iff_of_eq low).mp r)
      refine .inr ⟨(a, l5), ⟨a0, a1, a2, fun m m1 m2 m3 => ?_⟩, ?_⟩
      · by_cases e : m = j
        · subst e; exact absurd m2 q
        · exact a3 m (by omega) m2 m3
      · simp (implicitDefEqProofs := false) (disch := omega) only [↓rI_s, ↓rV_s, ↓rI_e, ↓rV_e, zc_eq, zc_ne, zc_lt, zc_ge, zc_gt, zc_le, zlt_t, zlt_f, zle_t, zle_f, zeq_t, zeq_f, lz, zadd, zsub, zmul, zneg, zb_e0, zb_e1, boo0, boo1, ua_s, ua_n, ua_ua, up_s, u2_s, u2_f, u2_c, u2_u2, Int.natCast_add, Int.zero_add, Int.add_zero, ↓reduceIte, ne_eq, not_true_eq_false, not_false_eq_true, Int.natCast_one, ↓zg_45_0, ↓zg_5_2, e2, es, low', ↓k_X0_bestFrom_57]
  · refine ⟨Int.le_refl 0, by decide, ⟨fun _ => false, fun i hi => (by cases hi), fun P hP => ?_, ?_⟩, fun m hm => by omega⟩
    · have : cnt (rC R) P = 0 := cnt_z fun i _ q => by have := hP i q; cases this
      rw [this]; exact cnt_lo _ _
    · have : ∀ k, htP (rPn R) (fun _ => false) k = 0 := by
        intro k
        induction k with
        | zero => rfl
        | succ k ih => show htP _ _ k + _ = 0; rw [ih]; rfl
      exact this _
theorem c_firstFor {c k : Nat} (hd : 4 ≤ d) (hR : cR R I A) (hc : c + (k + 1) = rC R) (hM : ∀ c : Nat, c < rC R → A 49 c = bts (rW R) (M c)) : q_call q_MT d 13 [.ref 45, .int (zI c), .int (zI (bts (rW R) u)), .int (zI (htB (rC R) (rW R) M (rPn R) (k + 1) u))] (zM I A W) = some (.inl (some (.int (zI (htF (rC R) (rW R) M (rPn R) k u)))), zM I A W) := by
  obtain ⟨d, rfl⟩ : ∃ e, d = e + 1 := ⟨d - 1, by omega⟩
  have hc4 := hR.1.2.2.1
  have hw := hR.1.2.1
  have e1 := hR.2.2.1
  have ec : rC R - (k + 1) = c := by omega
  have hP : ∀ c, c < rC R → 1 ≤ rPn R c ∧ rPn R c ≤ 99 := fun c h => hR.1.p (by omega) (by omega)
  have eM := hM c (by omega)
  have ep := hR.2.2.2.2.2.2.2.2.2 c (by omega) (by omega)
  have pb : 1 ≤ rP R c ∧ rP R c ≤ 99 := hP c (by omega)
  have bb := htB_b (n := rW R) (M := M) (u := u) (k := k + 1) hP (by omega)
  unfold htF
  rw [ec]
  rw [cl_X0_firstFor]
  simp (implicitDefEqProofs := false) (disch := omega) only [↓rI_s, ↓rV_s, ↓rI_e, ↓rV_e, zc_eq, zc_ne, zc_lt, zc_ge, zc_gt, zc_le, zlt_t, zlt_f, zle_t, zle_f, zeq_t, zeq_f, lz, zadd, zsub, zmul, zneg, zb_e0, zb_e1, boo0, boo1, ua_s, ua_n, ua_ua, up_s, u2_s, u2_f, u2_c, u2_u2, Int.natCast_add, Int.zero_add, Int.add_zero, ↓reduceIte, ne_eq, not_true_eq_false, not_false_eq_true, Int.natCast_one, ↓k_X0_firstFor_0]
  refine lp_x (fun j (a : Value) => q_run qm_X0_firstFor (q_call q_MT d) 3 [.ref 45, .int (zI c), .int (zI (bts (rW R) u)), .int (zI (htB (rC R) (rW R) M (rPn R) (k + 1) u)), .int (zI j), a] [] (zM I A W)) (fun j a => ∀ w, w < j → ¬ ((M c w && !u w) && decide (rPn R c + htB (rC R) (rW R) M (rPn R) k (htA u w) = htB (rC R) (rW R) M (rPn R) (k + 1) u)) = true) (fun r => r = _) (rW R) ?_ ?_ 0 q_junk (by omega) (fun w hw => by omega)
  · rintro a ha
    rw [fst_no ha, k_X0_firstFor_3]
    simp (implicitDefEqProofs := false) (disch := omega) only [↓rI_s, ↓rV_s, ↓rI_e, ↓rV_e, zc_eq, zc_ne, zc_lt, zc_ge, zc_gt, zc_le, zlt_t, zlt_f, zle_t, zle_f, zeq_t, zeq_f, lz, zadd, zsub, zmul, zneg, zb_e0, zb_e1, boo0, boo1, ua_s, ua_n, ua_ua, up_s, u2_s, u2_f, u2_c, u2_u2, Int.natCast_add, Int.zero_add, Int.add_zero, ↓reduceIte, ne_eq, not_true_eq_false, not_false_eq_true, Int.natCast_one, ↓zg_45_0, ↓zg_5_1, e1, Int.le_refl]
  · rintro j a hj ha
    have ea : (zI (bts (rW R) (M c)) &&& (zI (bts (rW R) u) ^^^ zI (-1))) &&& (zI 1 <<< (zI (j : Int) &&& zI 31)) = zI (bts (rW R) fun w => (M c w && !u w) && decide (w = j)) := by
      rw [bts_an, bts_1 hw hj, bts_and]
    have eo : zI (bts (rW R) u) ||| (zI 1 <<< (zI (j : Int) &&& zI 31)) = zI (bts (rW R) (htA u j)) := by
      rw [bts_1 hw hj, bts_or]
      congr 1
      exact bts_cg fun i _ => by unfold htA; rw [Bool.or_comm]
    have nb := bts_b hw fun w => (M c w && !u w) && decide (w = j)
    rw [k_X0_firstFor_3]
    by_cases q : (M c j && !u j) = true
    · have nz : ¬ (bts (rW R) fun w => (M c w && !u w) && decide (w = j)) = 0 := fun r => bts_z.mp r j hj (by rw [q]; simp)
      have bf := c_bestFrom (W := W) (d := d) (f := c + 1) (k := k) (u := htA u j) (by omega) hR (by omega) hM
      rw [Int.natCast_add, Int.natCast_one] at bf
      have b2 := htB_b (n := rW R) (M := M) (u := htA u j) (k := k) hP (by omega)
      by_cases g : rPn R c + htB (rC R) (rW R) M (rPn R) k (htA u j) = htB (rC R) (rW R) M (rPn R) (k + 1) u
      · refine .inl ?_
        rw [fst_at hj ha (by rw [q, decide_eq_true g]; rfl)]
        have g' : rP R c + htB (rC R) (rW R) M (rPn R) k (htA u j) = htB (rC R) (rW R) M (rPn R) (k + 1) u := g
        simp (implicitDefEqProofs := false) (disch := omega) only [↓rI_s, ↓rV_s, ↓rI_e, ↓rV_e, zc_eq, zc_ne, zc_lt, zc_ge, zc_gt, zc_le, zlt_t, zlt_f, zle_t, zle_f, zeq_t, zeq_f, lz, zadd, zsub, zmul, zneg, zb_e0, zb_e1, boo0, boo1, ua_s, ua_n, ua_ua, up_s, u2_s, u2_f, u2_c, u2_u2, Int.natCast_add, Int.zero_add, Int.add_zero, ↓reduceIte, ne_eq, not_true_eq_false, not_false_eq_true, Int.natCast_one, ↓zg_45_0, ↓zg_5_1, e1, ↓zg_45_6, zl_49, eM, ea, eo, ↓zg_5_10, zl_11, ep, ↓mc_45, ↓cI bf]
      · refine .inr ⟨.int (zI 1 <<< (zI (j : Int) &&& zI 31)), fun w hw => ?_, ?_⟩
        · by_cases e : w = j
          · subst e; rw [decide_eq_false g]; simp
          · exact ha w (by omega)
        · have g' : ¬ (rP R c + htB (rC R) (rW R) M (rPn R) k (htA u j) = htB (rC R) (rW R) M (rPn R) (k + 1) u) := g
          simp (implicitDefEqProofs := false) (disch := omega) only [↓rI_s, ↓rV_s, ↓rI_e, ↓rV_e, zc_eq, zc_ne, zc_lt, zc_ge, zc_gt, zc_le, zlt_t, zlt_f, zle_t, zle_f, zeq_t, zeq_f, lz, zadd, zsub, zmul, zneg, zb_e0, zb_e1, boo0, boo1, ua_s, ua_n, ua_ua, up_s, u2_s, u2_f, u2_c, u2_u2, Int.natCast_add, Int.zero_add, Int.add_zero, ↓reduceIte, ne_eq, not_true_eq_false, not_false_eq_true, Int.natCast_one, ↓zg_45_0, ↓zg_5_1, e1, ↓zg_45_6, zl_49, eM, ea, eo, ↓zg_5_10, zl_11, ep, ↓mc_45, ↓cI bf, ↓k_X0_firstFor_65]
    · have ez : (bts (rW R) fun w => (M c w && !u w) && decide (w = j)) = 0 := bts_z.mpr fun w _ hw => by
        rw [Bool.and_eq_true, decide_eq_true_eq] at hw
        rw [hw.2] at hw; exact q hw.1
      rw [ez] at ea
      refine .inr ⟨.int (zI 1 <<< (zI (j : Int) &&& zI 31)), fun w hw => ?_, ?_⟩
      · by_cases e : w = j
        · subst e
          cases r : (M c w && !u w)
          · rw [Bool.false_and]; decide
          · exact absurd r q
        · exact ha w (by omega)
      · simp (implicitDefEqProofs := false) (disch := omega) only [↓rI_s, ↓rV_s, ↓rI_e, ↓rV_e, zc_eq, zc_ne, zc_lt, zc_ge, zc_gt, zc_le, zlt_t, zlt_f, zle_t, zle_f, zeq_t, zeq_f, lz, zadd, zsub, zmul, zneg, zb_e0, zb_e1, boo0, boo1, ua_s, ua_n, ua_ua, up_s, u2_s, u2_f, u2_c, u2_u2, Int.natCast_add, Int.zero_add, Int.add_zero, ↓reduceIte, ne_eq, not_true_eq_false, not_false_eq_true, Int.natCast_one, ↓zg_45_0, ↓zg_5_1, e1, ↓zg_45_6, zl_49, eM, ea, ↓k_X0_firstFor_65]
end MD
