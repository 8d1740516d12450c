--DEPS a2.mate
section MF
variable {d : Nat} {I : Nat → Nat → Int} {A : Nat → Int → Int} {W : qWt} {R : zR} {F : zF} {s : Int → Int}
abbrev mtV (R : zR) (F : zF) (s : Int → Int) : Int := htB (rC R) (rW R) (htM R F s) (rPn R) (rC R) (fun _ => false)
abbrev mtG (R : zR) (F : zF) (s : Int → Int) (c : Nat) : Int := htGv (rC R) (rW R) (htM R F s) (rPn R) c
theorem c_giveCups (hd : 6 ≤ d) (hX : cX R F s I A) : ∃ A', fr [22, 23, 49, 50] A A' ∧ (∀ c : Nat, c < rC R → A' 50 c = mtG R F s c) ∧ q_call q_MT d 11 [.ref 45] (zM I A W) = some (.inl (some (.int (zI (mtV R F s)))), zM I A' W) := by
  obtain ⟨d, rfl⟩ : ∃ e, d = e + 1 := ⟨d - 1, by omega⟩
  have hR := hX.1
  have hw := hR.1.2.1
  have hc4 := hR.1.2.2.1
  have hP : ∀ c, c < rC R → 1 ≤ rPn R c ∧ rPn R c ≤ 99 := fun c h => hR.1.p (by omega) (by omega)
  obtain ⟨A1, f1, h1, e1⟩ := c_findComers (W := W) (d := d) (by omega) hX
  have hX1 : cX R F s I A1 := hX.t fi.refl (f1.wd rfl)
  have bf := c_bestFrom (W := W) (d := d) (f := 0) (k := rC R) (u := fun _ => false) (M := htM R F s) (by omega) hX1.1 (by omega) h1
  have b0 : (bts (rW R) fun _ => false) = 0 := bts_z.mpr fun _ _ h => by cases h
  rw [b0] at bf
  have n0 : ((0 : Nat) : Int) = 0 := rfl
  rw [n0] at bf
  rw [cl_X0_giveCups]
  simp (implicitDefEqProofs := false) (disch := omega) only [↓rI_s, ↓rV_s, ↓rI_e, ↓rV_e, zc_eq, zc_ne, zc_lt, zc_ge, zc_gt, zc_le, zlt_t, zlt_f, zle_t, zle_f, zeq_t, zeq_f, lz, zadd, zsub, zmul, zneg, zb_e0, zb_e1, boo0, boo1, ua_s, ua_n, ua_ua, up_s, u2_s, u2_f, u2_c, u2_u2, Int.natCast_add, Int.zero_add, Int.add_zero, ↓reduceIte, ne_eq, not_true_eq_false, not_false_eq_true, Int.natCast_one, ↓k_X0_giveCups_0, ↓mc_45, ↓cV e1, ↓cI bf]
  have hid : ua A1 50 (A1 50) = A1 := ua_id
  conv => enter [1, A', 2, 2, 1]; rw [← hid]
  refine lp_x (fun j (B : (Int → Int) × Int × Int) => q_run qm_X0_giveCups (q_call q_MT d) 18 [.ref 45, .int (zI (mtV R F s)), .int (zI B.2.1), .int (zI B.2.2), .int (zI j)] [] (zM I (ua A1 50 B.1) W)) (fun j B => (∀ c : Nat, c < j → B.1 c = mtG R F s c) ∧ B.2.1 = htB (rC R) (rW R) (htM R F s) (rPn R) (rC R - j) (htU (rC R) (rW R) (htM R F s) (rPn R) j) ∧ B.2.2 = bts (rW R) (htU (rC R) (rW R) (htM R F s) (rPn R) j)) (fun r => ∃ A', fr [22, 23, 49, 50] A A' ∧ (∀ c : Nat, c < rC R → A' 50 c = mtG R F s c) ∧ r = some (.inl (some (.int (zI (mtV R F s)))), zM I A' W)) (rC R) ?_ ?_ 0 (A1 50, mtV R F s, 0) (by omega) ⟨fun c hc => by omega, rfl, b0.symm⟩
  · rintro ⟨g, x, y⟩ ⟨h2, rfl, rfl⟩
    refine ⟨ua A1 50 g, (f1.wd rfl).a rfl, fun c hc => ?_, ?_⟩
    · rw [ua_s]; exact h2 c hc
    · have e2 := hX1.1.2.2.2.1
      dsimp only
      rw [k_X0_giveCups_18]
      simp (implicitDefEqProofs := false) (disch := omega) only [↓rI_s, ↓rV_s, ↓rI_e, ↓rV_e, zc_eq, zc_ne, zc_lt, zc_ge, zc_gt, zc_le, zlt_t, zlt_f, zle_t, zle_f, zeq_t, zeq_f, lz, zadd, zsub, zmul, zneg, zb_e0, zb_e1, boo0, boo1, ua_s, ua_n, ua_ua, up_s, u2_s, u2_f, u2_c, u2_u2, Int.natCast_add, Int.zero_add, Int.add_zero, ↓reduceIte, ne_eq, not_true_eq_false, not_false_eq_true, Int.natCast_one, ↓zg_45_0, ↓zg_5_2, e2, Int.le_refl]
  · rintro j ⟨g, x, y⟩ hj ⟨h2, h3, h4⟩
    dsimp only at h2 h3 h4 ⊢
    subst h3 h4
    have fB : fr [50] A1 (ua A1 50 g) := fr.refl.a rfl
    have hRB := hX1.1.fr fB rfl
    have e2 := hRB.2.2.2.1
    have ep := hRB.2.2.2.2.2.2.2.2.2 j (by omega) (by omega)
    have ep' : A1 11 j = rP R j := ep
    have pb : 1 ≤ rP R j ∧ rP R j ≤ 99 := hP j (by omega)
    obtain ⟨k, hk⟩ : ∃ k, rC R = j + (k + 1) := ⟨rC R - j - 1, by omega⟩
    have kj : rC R - j = k + 1 := by omega
    have kj1 : rC R - (j + 1) = k := by omega
    have jk : rC R - (k + 1) = j := by omega
    have ff := c_firstFor (W := W) (d := d) (c := j) (k := k) (u := htU (rC R) (rW R) (htM R F s) (rPn R) j) (M := htM R F s) (by omega) hRB hk.symm (fun c hc => by rw [ua_n (by decide)]; exact h1 c hc)
    have sF := htF_s (C := rC R) (n := rW R) (M := htM R F s) (P := rPn R) (k := k) (u := htU (rC R) (rW R) (htM R F s) (rPn R) j)
    rw [jk] at sF
    have lo := htF_lo (C := rC R) (n := rW R) (M := htM R F s) (P := rPn R) (k := k) (u := htU (rC R) (rW R) (htM R F s) (rPn R) j)
    have hi := htF_hi (C := rC R) (n := rW R) (M := htM R F s) (P := rPn R) (k := k) (u := htU (rC R) (rW R) (htM R F s) (rPn R) j)
    have eg : mtG R F s j = htF (rC R) (rW R) (htM R F s) (rPn R) k (htU (rC R) (rW R) (htM R F s) (rPn R) j) := by
      show htF _ _ _ _ (rC R - (j + 1)) _ = _
      rw [kj1]
    have eU : htU (rC R) (rW R) (htM R F s) (rPn R) (j + 1) = htW (htU (rC R) (rW R) (htM R F s) (rPn R) j) (htF (rC R) (rW R) (htM R F s) (rPn R) k (htU (rC R) (rW R) (htM R F s) (rPn R) j)) := by
      show htW _ (htF _ _ _ _ (rC R - (j + 1)) _) = _
      rw [kj1]
    rw [kj]
    have bb := htB_b (n := rW R) (M := htM R F s) (u := htU (rC R) (rW R) (htM R F s) (rPn R) j) (k := k + 1) hP (by omega)
    generalize hv : htF (rC R) (rW R) (htM R F s) (rPn R) k (htU (rC R) (rW R) (htM R F s) (rPn R) j) = v at ff sF lo hi eg eU
    have h2' : ∀ c : Nat, c < j + 1 → up g j v c = mtG R F s c := fun c hc => by
      by_cases e : c = j
      · subst e; rw [up_s, eg]
      · rw [up_n (by omega)]; exact h2 c (by omega)
    rw [k_X0_giveCups_18]
    by_cases q : v = -1
    · have eU' : htU (rC R) (rW R) (htM R F s) (rPn R) (j + 1) = htU (rC R) (rW R) (htM R F s) (rPn R) j := by rw [eU, htW, if_pos q]
      refine .inr ⟨(up g j v, htB (rC R) (rW R) (htM R F s) (rPn R) (k + 1) (htU (rC R) (rW R) (htM R F s) (rPn R) j), bts (rW R) (htU (rC R) (rW R) (htM R F s) (rPn R) j)), ⟨h2', ?_, ?_⟩, ?_⟩
      · dsimp only
        rw [eU', kj1]; exact (sF.1 q).symm
      · dsimp only
        rw [eU']
      · subst q
        simp (implicitDefEqProofs := false) (disch := omega) only [↓rI_s, ↓rV_s, ↓rI_e, ↓rV_e, zc_eq, zc_ne, zc_lt, zc_ge, zc_gt, zc_le, zlt_t, zlt_f, zle_t, zle_f, zeq_t, zeq_f, lz, zadd, zsub, zmul, zneg, zb_e0, zb_e1, boo0, boo1, ua_s, ua_n, ua_ua, up_s, u2_s, u2_f, u2_c, u2_u2, Int.natCast_add, Int.zero_add, Int.add_zero, ↓reduceIte, ne_eq, not_true_eq_false, not_false_eq_true, Int.natCast_one, ↓zg_45_0, ↓zg_5_2, e2, ↓zg_45_7, ↓mc_45, ↓cI ff, zs_50, zl_50, ↓k_X0_giveCups_81]
    · obtain ⟨s1, s2, s3⟩ := sF.2 q
      obtain ⟨w, rfl⟩ := Int.eq_ofNat_of_zero_le (show 0 ≤ v by omega)
      have eU' : htU (rC R) (rW R) (htM R F s) (rPn R) (j + 1) = htA (htU (rC R) (rW R) (htM R F s) (rPn R) j) w := by rw [eU, htW, if_neg q]; rfl
      have eo : zI (bts (rW R) (htU (rC R) (rW R) (htM R F s) (rPn R) j)) ||| (zI 1 <<< (zI (w : Int) &&& zI 31)) = zI (bts (rW R) (htU (rC R) (rW R) (htM R F s) (rPn R) (j + 1))) := by
        rw [bts_1 hw (by omega), bts_or, eU']
        congr 1
        exact bts_cg fun i _ => by unfold htA; rw [Bool.or_comm]
      rw [← eU] at s1
      have s1' : htB (rC R) (rW R) (htM R F s) (rPn R) (k + 1) (htU (rC R) (rW R) (htM R F s) (rPn R) j) - rP R j = htB (rC R) (rW R) (htM R F s) (rPn R) k (htU (rC R) (rW R) (htM R F s) (rPn R) (j + 1)) := by
        have : rPn R j = rP R j := rfl
        omega
      refine .inr ⟨(up g j w, htB (rC R) (rW R) (htM R F s) (rPn R) k (htU (rC R) (rW R) (htM R F s) (rPn R) (j + 1)), bts (rW R) (htU (rC R) (rW R) (htM R F s) (rPn R) (j + 1))), ⟨h2', ?_, rfl⟩, ?_⟩
      · dsimp only
        rw [kj1]
      · simp (implicitDefEqProofs := false) (disch := omega) only [↓rI_s, ↓rV_s, ↓rI_e, ↓rV_e, zc_eq, zc_ne, zc_lt, zc_ge, zc_gt, zc_le, zlt_t, zlt_f, zle_t, zle_f, zeq_t, zeq_f, lz, zadd, zsub, zmul, zneg, zb_e0, zb_e1, boo0, boo1, ua_s, ua_n, ua_ua, up_s, u2_s, u2_f, u2_c, u2_u2, Int.natCast_add, Int.zero_add, Int.add_zero, ↓reduceIte, ne_eq, not_true_eq_false, not_false_eq_true, Int.natCast_one, ↓zg_45_0, ↓zg_5_2, e2, ↓zg_45_7, ↓mc_45, ↓cI ff, zs_50, zl_50, ↓zg_5_10, zl_11, ep', eo, s1', ↓k_X0_giveCups_81]
theorem C_match (hd : 7 ≤ d) (hX : cX R F s I A) : cOut I A W (q_call q_MT d 133 [.ref 2] (zM I A W)) 0 (mtV R F s) := by
  obtain ⟨d, rfl⟩ : ∃ e, d = e + 1 := ⟨d - 1, by omega⟩
  obtain ⟨A', f, -, e⟩ := c_giveCups (W := W) (d := d) (by omega) hX
  refine cOut.ok fi.refl (f.wd rfl) ?_
  rw [cl_X10_match]
  simp (implicitDefEqProofs := false) (disch := omega) only [↓rI_s, ↓rV_s, ↓rI_e, ↓rV_e, zc_eq, zc_ne, zc_lt, zc_ge, zc_gt, zc_le, zlt_t, zlt_f, zle_t, zle_f, zeq_t, zeq_f, lz, zadd, zsub, zmul, zneg, zb_e0, zb_e1, boo0, boo1, ua_s, ua_n, ua_ua, up_s, u2_s, u2_f, u2_c, u2_u2, Int.natCast_add, Int.zero_add, Int.add_zero, ↓reduceIte, ne_eq, not_true_eq_false, not_false_eq_true, Int.natCast_one, ↓k_X10_match_0, ↓zg_2_8, ↓mc_45, ↓cI e]
theorem C_matched {c : Int} (hd : 7 ≤ d) (hX : cX R F s I A) (hc : wI c) : cOut I A W (q_call q_MT d 134 [.ref 2, .int (zI c)] (zM I A W)) (if 0 ≤ c ∧ c < rC R then 0 else 1) (mtG R F s c.toNat) := by
  obtain ⟨d, rfl⟩ : ∃ e, d = e + 1 := ⟨d - 1, by omega⟩
  have hR := hX.1
  have hc4 := hR.1.2.2.1
  rw [cl_X10_matched]
  by_cases q : 0 ≤ c ∧ c < rC R
  · rw [if_pos q]
    obtain ⟨A', f, g, e⟩ := c_giveCups (W := W) (d := d) (by omega) hX
    have g' := g c.toNat (by omega)
    rw [Int.toNat_of_nonneg q.1] at g'
    refine cOut.ok fi.refl (f.wd rfl) ?_
    simp (implicitDefEqProofs := false) (disch := omega) only [↓rI_s, ↓rV_s, ↓rI_e, ↓rV_e, zc_eq, zc_ne, zc_lt, zc_ge, zc_gt, zc_le, zlt_t, zlt_f, zle_t, zle_f, zeq_t, zeq_f, lz, zadd, zsub, zmul, zneg, zb_e0, zb_e1, boo0, boo1, ua_s, ua_n, ua_ua, up_s, u2_s, u2_f, u2_c, u2_u2, Int.natCast_add, Int.zero_add, Int.add_zero, ↓reduceIte, ne_eq, not_true_eq_false, not_false_eq_true, Int.natCast_one, ↓k_X10_matched_0, ↓mc_2, s_needWink (show 2 ≤ d by omega) hR, s_needWink_f (show 2 ≤ d by omega) hR, s_needCup (show 2 ≤ d by omega) hR, s_needCup_f (show 2 ≤ d by omega) hR, s_needHouse (show 2 ≤ d by omega) hR, s_needHouse_f (show 2 ≤ d by omega) hR, s_needThere, s_needThere_f, s_needPress, s_needPress_f, s_needWhat, s_needWhat_f, s_needWithin, s_needWithin_f, s_need1, s_need0, t0_0, t0_1, ↓zg_2_8, ↓mc_45, ↓cI e, ↓zg_45_7, zl_50, g']
  · rw [if_neg q]
    exact cOut.ns (by simp (implicitDefEqProofs := false) (disch := omega) only [↓rI_s, ↓rV_s, ↓rI_e, ↓rV_e, zc_eq, zc_ne, zc_lt, zc_ge, zc_gt, zc_le, zlt_t, zlt_f, zle_t, zle_f, zeq_t, zeq_f, lz, zadd, zsub, zmul, zneg, zb_e0, zb_e1, boo0, boo1, ua_s, ua_n, ua_ua, up_s, u2_s, u2_f, u2_c, u2_u2, Int.natCast_add, Int.zero_add, Int.add_zero, ↓reduceIte, ne_eq, not_true_eq_false, not_false_eq_true, Int.natCast_one, ↓k_X10_matched_0, ↓mc_2, s_needWink (show 2 ≤ d by omega) hR, s_needWink_f (show 2 ≤ d by omega) hR, s_needCup (show 2 ≤ d by omega) hR, s_needCup_f (show 2 ≤ d by omega) hR, s_needHouse (show 2 ≤ d by omega) hR, s_needHouse_f (show 2 ≤ d by omega) hR, s_needThere, s_needThere_f, s_needPress, s_needPress_f, s_needWhat, s_needWhat_f, s_needWithin, s_needWithin_f, s_need1, s_need0, t0_0, t0_1])
end MF
