--DEPS a5.matr
section MS
variable {d : Nat} {I : Nat → Nat → Int} {A : Nat → Int → Int} {W : qWt} {R : zR} {F : zF} {s : Int → Int} {g : Int → Int}
theorem pw11 {w c : Nat} (hw : w ≤ 10) (hc : c ≤ 4) : (w + 1) ^ c ≤ 14641 := by
  have a : (w + 1) ^ c ≤ 11 ^ c := Nat.pow_le_pow_left (by omega) c
  have b : 11 ^ c ≤ 11 ^ 4 := Nat.pow_le_pow_right (by decide) hc
  exact Nat.le_trans a b
/-- who can come where -/
theorem m_mays {rows : Nat} (hd : 10 ≤ d) (hY : mY R F s I A) : ∃ (A' : Nat → Int → Int) (g : Int → Int) (l5 : Value), fr [72, 73] A A' ∧ (∀ c w : Nat, c < rC R → w < rW R → g (10 * (c : Int) + w) = bI (htM R F s c w)) ∧ q_run qm_X11_findMatch (q_call q_MT d) 46 [.ref 59, .int (zI ((rW R : Int) + 1)), .int (zI rows), .ref (90 + (dyn W).length), .int (zI 0), q_junk, q_junk, q_junk, q_junk, q_junk, q_junk] [] (zM I A (axs W [bE fun _ => 0])) = q_run qm_X11_findMatch (q_call q_MT d) 100 [.ref 59, .int (zI ((rW R : Int) + 1)), .int (zI rows), .ref (90 + (dyn W).length), .int (zI 0), l5, q_junk, q_junk, q_junk, q_junk, q_junk] [] (zM I A' (axs W [bE g])) := by
  have hR := hY.1
  have hw := hR.1.2.1
  have hc4 := hR.1.2.2.1
  have e1 := hR.2.2.1
  have e2 := hR.2.2.2.1
  refine lp_x (fun j (B : (Nat → Int → Int) × (Int → Int) × Value) => q_run qm_X11_findMatch (q_call q_MT d) 46 [.ref 59, .int (zI ((rW R : Int) + 1)), .int (zI rows), .ref (90 + (dyn W).length), .int (zI j), B.2.2, q_junk, q_junk, q_junk, q_junk, q_junk] [] (zM I B.1 (axs W [bE B.2.1]))) (fun j B => fr [72, 73] A B.1 ∧ ∀ c w : Nat, c < j → w < rW R → B.2.1 (10 * (c : Int) + w) = bI (htM R F s c w)) (fun r => ∃ (A' : Nat → Int → Int) (g : Int → Int) (l5 : Value), fr [72, 73] A A' ∧ (∀ c w : Nat, c < rC R → w < rW R → g (10 * (c : Int) + w) = bI (htM R F s c w)) ∧ r = q_run qm_X11_findMatch (q_call q_MT d) 100 [.ref 59, .int (zI ((rW R : Int) + 1)), .int (zI rows), .ref (90 + (dyn W).length), .int (zI 0), l5, q_junk, q_junk, q_junk, q_junk, q_junk] [] (zM I A' (axs W [bE g]))) (rC R) ?_ ?_ 0 (A, fun _ => 0, q_junk) (by omega) ⟨fr.refl, fun c w hc => by omega⟩
  · rintro ⟨B, g, l5⟩ ⟨f, h⟩
    refine ⟨B, g, l5, f, h, ?_⟩
    have e2' : I 59 23 = rC R := e2
    dsimp only
    rw [k_X11_findMatch_46]
    simp (implicitDefEqProofs := false) (disch := omega) only [↓rI_s, ↓rV_s, ↓rI_e, ↓rV_e, zc_eq, zc_ne, zc_lt, zc_ge, zc_gt, zc_le, zlt_t, zlt_f, zle_t, zle_f, zeq_t, zeq_f, lz, zadd, zsub, zmul, zneg, zb_e0, zb_e1, boo0, boo1, ua_s, ua_n, ua_ua, up_s, u2_s, u2_f, u2_c, u2_u2, Int.natCast_add, Int.zero_add, Int.add_zero, ↓reduceIte, ne_eq, not_true_eq_false, not_false_eq_true, Int.natCast_one, ↓zg_59_23, e2', Int.le_refl]
  · rintro j ⟨B, g, l5⟩ hj ⟨f, h⟩
    dsimp only at f h ⊢
    have z : ∃ (B' : (Nat → Int → Int) × (Int → Int) × Value), (fr [72, 73] A B'.1 ∧ ∀ c w : Nat, c < j + 1 → w < rW R → B'.2.1 (10 * (c : Int) + w) = bI (htM R F s c w)) ∧ q_run qm_X11_findMatch (q_call q_MT d) 58 [.ref 59, .int (zI ((rW R : Int) + 1)), .int (zI rows), .ref (90 + (dyn W).length), .int (zI j), .int (zI (0 : Nat)), q_junk, q_junk, q_junk, q_junk, q_junk] [] (zM I B (axs W [bE g])) = q_run qm_X11_findMatch (q_call q_MT d) 46 [.ref 59, .int (zI ((rW R : Int) + 1)), .int (zI rows), .ref (90 + (dyn W).length), .int (zI ((j : Int) + 1)), B'.2.2, q_junk, q_junk, q_junk, q_junk, q_junk] [] (zM I B'.1 (axs W [bE B'.2.1])) := by
      refine lp_x (fun i (B : (Nat → Int → Int) × (Int → Int)) => q_run qm_X11_findMatch (q_call q_MT d) 58 [.ref 59, .int (zI ((rW R : Int) + 1)), .int (zI rows), .ref (90 + (dyn W).length), .int (zI j), .int (zI i), q_junk, q_junk, q_junk, q_junk, q_junk] [] (zM I B.1 (axs W [bE B.2]))) (fun i B => fr [72, 73] A B.1 ∧ (∀ c w : Nat, c < j → w < rW R → B.2 (10 * (c : Int) + w) = bI (htM R F s c w)) ∧ ∀ w : Nat, w < i → B.2 (10 * (j : Int) + w) = bI (htM R F s j w)) (fun r => ∃ (B' : (Nat → Int → Int) × (Int → Int) × Value), (fr [72, 73] A B'.1 ∧ ∀ c w : Nat, c < j + 1 → w < rW R → B'.2.1 (10 * (c : Int) + w) = bI (htM R F s c w)) ∧ r = q_run qm_X11_findMatch (q_call q_MT d) 46 [.ref 59, .int (zI ((rW R : Int) + 1)), .int (zI rows), .ref (90 + (dyn W).length), .int (zI ((j : Int) + 1)), B'.2.2, q_junk, q_junk, q_junk, q_junk, q_junk] [] (zM I B'.1 (axs W [bE B'.2.1]))) (rW R) ?_ ?_ 0 (B, g) (by omega) ⟨f, h, fun w hw => by omega⟩
      · rintro ⟨B, g⟩ ⟨f, h1, h2⟩
        refine ⟨(B, g, .int (zI (rW R))), ⟨f, fun c w hc hw => ?_⟩, ?_⟩
        · by_cases e : c = j
          · subst e; exact h2 w hw
          · exact h1 c w (by omega) hw
        · have e1' : I 59 22 = rW R := e1
          dsimp only
          rw [k_X11_findMatch_58]
          simp (implicitDefEqProofs := false) (disch := omega) only [↓rI_s, ↓rV_s, ↓rI_e, ↓rV_e, zc_eq, zc_ne, zc_lt, zc_ge, zc_gt, zc_le, zlt_t, zlt_f, zle_t, zle_f, zeq_t, zeq_f, lz, zadd, zsub, zmul, zneg, zb_e0, zb_e1, boo0, boo1, ua_s, ua_n, ua_ua, up_s, u2_s, u2_f, u2_c, u2_u2, Int.natCast_add, Int.zero_add, Int.add_zero, ↓reduceIte, ne_eq, not_true_eq_false, not_false_eq_true, Int.natCast_one, ↓zg_59_22, e1', Int.le_refl]
      · rintro i ⟨B, g⟩ hi ⟨f, h1, h2⟩
        dsimp only at f h1 h2 ⊢
        obtain ⟨B', f', e⟩ := m_reaches (d := d) (W := axs W [bE g]) (w := i) (c := j) hd (hY.t fi.refl (f.wd rfl)) hi hj
        have x01 : bI (htM R F s j i) = 0 ∨ bI (htM R F s j i) = 1 := by
          cases htM R F s j i
          · exact .inl rfl
          · exact .inr rfl
        have es := fun (k : qH → qR) => zb_st (I := I) (A := B') (W := W) (g := g) (j := 10 * (j : Int) + i) (k := k) (by omega) (by omega) x01
        refine .inr ⟨(B', up g (10 * (j : Int) + i) (bI (htM R F s j i))), ⟨f.tr f', fun c w hc hw => ?_, fun w hw => ?_⟩, ?_⟩
        · dsimp only
          rw [up_n (by omega)]; exact h1 c w hc hw
        · dsimp only
          by_cases e : w = i
          · subst e; rw [up_s]
          · rw [up_n (by omega)]; exact h2 w (by omega)
        · rw [k_X11_findMatch_58]
          simp (implicitDefEqProofs := false) (disch := omega) only [↓rI_s, ↓rV_s, ↓rI_e, ↓rV_e, zc_eq, zc_ne, zc_lt, zc_ge, zc_gt, zc_le, zlt_t, zlt_f, zle_t, zle_f, zeq_t, zeq_f, lz, zadd, zsub, zmul, zneg, zb_e0, zb_e1, boo0, boo1, ua_s, ua_n, ua_ua, up_s, u2_s, u2_f, u2_c, u2_u2, Int.natCast_add, Int.zero_add, Int.add_zero, ↓reduceIte, ne_eq, not_true_eq_false, not_false_eq_true, Int.natCast_one, ↓zg_59_22, e1, ↓mc_59, ↓cI e, es]
    obtain ⟨B', h', e⟩ := z
    refine .inr ⟨B', h', ?_⟩
    have n0 : ((0 : Nat) : Int) = 0 := rfl
    rw [n0] at e
    rw [k_X11_findMatch_46]
    simp (implicitDefEqProofs := false) (disch := omega) only [↓rI_s, ↓rV_s, ↓rI_e, ↓rV_e, zc_eq, zc_ne, zc_lt, zc_ge, zc_gt, zc_le, zlt_t, zlt_f, zle_t, zle_f, zeq_t, zeq_f, lz, zadd, zsub, zmul, zneg, zb_e0, zb_e1, boo0, boo1, ua_s, ua_n, ua_ua, up_s, u2_s, u2_f, u2_c, u2_u2, Int.natCast_add, Int.zero_add, Int.add_zero, ↓reduceIte, ne_eq, not_true_eq_false, not_false_eq_true, Int.natCast_one, ↓zg_59_23, e2]
    exact e
theorem m_findMatch (hd : 12 ≤ d) (hX : mX R F s I A) : ∃ I1 A1 g, fi [(59, 0), (59, 56)] I I1 ∧ fr [72, 73, 77, 85, 86] A A1 ∧ I1 59 0 = 0 ∧ I1 59 56 = mtV R F s ∧ (∀ c : Nat, c < rC R → A1 86 c = mtG R F s c) ∧ q_call q_MT d 252 [.ref 59] (zM (u2 I 59 0 0) A W) = some (.inl none, zM I1 A1 (axs W [bE g])) := by
  obtain ⟨d, rfl⟩ : ∃ e, d = e + 1 := ⟨d - 1, by omega⟩
  have hY := hX.y
  have hR := hX.1
  have hs := hX.2.1
  have hw := hR.1.2.1
  have hc4 := hR.1.2.2.1
  have hP : ∀ c, c < rC R → 1 ≤ rPn R c ∧ rPn R c ≤ 99 := fun c h => hR.1.p (by omega) (by omega)
  have e1 := hR.2.2.1
  have e2 := hR.2.2.2.1
  have tk := m_take (d := d) (I := u2 I 59 0 0) (A := A) (W := W) (by omega)
  rw [hs] at tk
  rw [cl_X11_findMatch]
  simp (implicitDefEqProofs := false) (disch := omega) only [↓rI_s, ↓rV_s, ↓rI_e, ↓rV_e, zc_eq, zc_ne, zc_lt, zc_ge, zc_gt, zc_le, zlt_t, zlt_f, zle_t, zle_f, zeq_t, zeq_f, lz, zadd, zsub, zmul, zneg, zb_e0, zb_e1, boo0, boo1, ua_s, ua_n, ua_ua, up_s, u2_s, u2_f, u2_c, u2_u2, Int.natCast_add, Int.zero_add, Int.add_zero, ↓reduceIte, ne_eq, not_true_eq_false, not_false_eq_true, Int.natCast_one, ↓k_X11_findMatch_0, ↓mc_59, ↓cV tk, ↓zg_59_22, e1]
  -- how many rows
  have z1 : q_run qm_X11_findMatch (q_call q_MT d) 15 [.ref 59, .int (zI ((rW R : Int) + 1)), .int (zI 1), .int (zI 0), q_junk, q_junk, q_junk, q_junk, q_junk, q_junk, q_junk] [] (zM (u2 I 59 0 0) (ua A 77 s) W) = q_run qm_X11_findMatch (q_call q_MT d) 15 [.ref 59, .int (zI ((rW R : Int) + 1)), .int (zI (((rW R + 1) ^ rC R : Nat) : Int)), .int (zI (rC R)), q_junk, q_junk, q_junk, q_junk, q_junk, q_junk, q_junk] [] (zM (u2 I 59 0 0) (ua A 77 s) W) := by
    refine lp_x (fun j (x : Int) => q_run qm_X11_findMatch (q_call q_MT d) 15 [.ref 59, .int (zI ((rW R : Int) + 1)), .int (zI x), .int (zI j), q_junk, q_junk, q_junk, q_junk, q_junk, q_junk, q_junk] [] (zM (u2 I 59 0 0) (ua A 77 s) W)) (fun j x => x = (((rW R + 1) ^ j : Nat) : Int)) (fun r => r = _) (rC R) ?_ ?_ 0 1 (by omega) rfl
    · rintro x rfl; rfl
    · rintro j x hj rfl
      refine .inr ⟨(((rW R + 1) ^ j : Nat) : Int) * ((rW R : Int) + 1), ?_, ?_⟩
      · rw [Nat.pow_succ, Int.natCast_mul]; rfl
      · rw [k_X11_findMatch_15]
        simp (implicitDefEqProofs := false) (disch := omega) only [↓rI_s, ↓rV_s, ↓rI_e, ↓rV_e, zc_eq, zc_ne, zc_lt, zc_ge, zc_gt, zc_le, zlt_t, zlt_f, zle_t, zle_f, zeq_t, zeq_f, lz, zadd, zsub, zmul, zneg, zb_e0, zb_e1, boo0, boo1, ua_s, ua_n, ua_ua, up_s, u2_s, u2_f, u2_c, u2_u2, Int.natCast_add, Int.zero_add, Int.add_zero, ↓reduceIte, ne_eq, not_true_eq_false, not_false_eq_true, Int.natCast_one, ↓zg_59_23, e2]
  rw [z1, k_X11_findMatch_15]
  have pw := pw11 hw hc4
  obtain ⟨N, hN⟩ : ∃ N, N = (rW R + 1) ^ rC R := ⟨_, rfl⟩
  rw [← hN] at pw ⊢
  have hY1 : mY R F s (u2 (u2 I 59 0 0) 59 56 (-1)) (ua A 77 s) := hY.t (fi.refl.f rfl) fr.refl
  obtain ⟨A2, g, l5, f2, hg, e3⟩ := m_mays (d := d) (W := W) (rows := N) (by omega) hY1
  simp (implicitDefEqProofs := false) (disch := omega) only [↓rI_s, ↓rV_s, ↓rI_e, ↓rV_e, zc_eq, zc_ne, zc_lt, zc_ge, zc_gt, zc_le, zlt_t, zlt_f, zle_t, zle_f, zeq_t, zeq_f, lz, zadd, zsub, zmul, zneg, zb_e0, zb_e1, boo0, boo1, ua_s, ua_n, ua_ua, up_s, u2_s, u2_f, u2_c, u2_u2, Int.natCast_add, Int.zero_add, Int.add_zero, ↓reduceIte, ne_eq, not_true_eq_false, not_false_eq_true, Int.natCast_one, ↓zg_59_23, e2, Int.le_refl, ↓zp_59_56, zb_nar]
  rw [e3]
  have hR2 : mR R (u2 (u2 I 59 0 0) 59 56 (-1)) A2 := hY1.1.fr f2 rfl
  have hid : ua (ua A2 85 (A2 85)) 86 (A2 86) = A2 := by rw [ua_id]; exact ua_id
  have vb : 0 ≤ mtV R F s ∧ mtV R F s ≤ 99 * (rC R : Int) := htB_b (n := rW R) (M := htM R F s) (u := fun _ => false) (k := rC R) hP (Nat.le_refl _)
  have fA : fr [72, 73, 77, 85, 86] A A2 := (fr.refl.a rfl : fr [72, 73, 77, 85, 86] A (ua A 77 s)).tr (f2.wd rfl)
  have zl := htZ_lt (C := rC R) (n := rW R) (M := htM R F s) (P := rPn R)
  rw [← hN] at zl
  conv => enter [1, I1, 1, A1, 1, g', 2, 2, 2, 2, 2, 1]; rw [← hid]
  refine lp_x (fun j (B : Int × (Int → Int) × (Int → Int) × Value × Value × Value × Value × Value × Value) => q_run qm_X11_findMatch (q_call q_MT d) 100 [.ref 59, .int (zI ((rW R : Int) + 1)), .int (zI N), .ref (90 + (dyn W).length), .int (zI j), B.2.2.2.1, B.2.2.2.2.1, B.2.2.2.2.2.1, B.2.2.2.2.2.2.1, B.2.2.2.2.2.2.2.1, B.2.2.2.2.2.2.2.2] [] (zM (u2 (u2 I 59 0 0) 59 56 B.1) (ua (ua A2 85 B.2.1) 86 B.2.2.1) (axs W [bE g]))) (fun j B => -1 ≤ B.1 ∧ B.1 ≤ mtV R F s ∧ (j ≤ htZ (rC R) (rW R) (htM R F s) (rPn R) → B.1 < mtV R F s) ∧ (htZ (rC R) (rW R) (htM R F s) (rPn R) < j → B.1 = mtV R F s ∧ ∀ c : Nat, c < rC R → B.2.2.1 c = mtG R F s c)) (fun r => ∃ I1 A1 g, fi [(59, 0), (59, 56)] I I1 ∧ fr [72, 73, 77, 85, 86] A A1 ∧ I1 59 0 = 0 ∧ I1 59 56 = mtV R F s ∧ (∀ c : Nat, c < rC R → A1 86 c = mtG R F s c) ∧ r = some (.inl none, zM I1 A1 (axs W [bE g]))) N ?_ ?_ 0 (-1, A2 85, A2 86, l5, q_junk, q_junk, q_junk, q_junk, q_junk) (by omega) ⟨(show (-1 : Int) ≤ -1 by decide), by dsimp only; omega, fun _ => by dsimp only; omega, fun h => by omega⟩
  · rintro ⟨x, g5, g6, B⟩ ⟨h1, h2, h3, h4⟩
    dsimp only at h1 h2 h3 h4 ⊢
    obtain ⟨h5, h6⟩ := h4 zl
    refine ⟨_, _, g, (fi.refl.f (c := 59) (f := 0) (v := 0) rfl).f (c := 59) (f := 56) (v := x) rfl, (fA.a (c := 85) (g := g5) rfl).a (c := 86) (g := g6) rfl, (u2_f (by decide)).trans u2_s, u2_s.trans h5, fun c hc => by rw [ua_s]; exact h6 c hc, ?_⟩
    rw [k_X11_findMatch_100]
    simp (implicitDefEqProofs := false) (disch := omega) only [↓rI_s, ↓rV_s, ↓rI_e, ↓rV_e, zc_eq, zc_ne, zc_lt, zc_ge, zc_gt, zc_le, zlt_t, zlt_f, zle_t, zle_f, zeq_t, zeq_f, lz, zadd, zsub, zmul, zneg, zb_e0, zb_e1, boo0, boo1, ua_s, ua_n, ua_ua, up_s, u2_s, u2_f, u2_c, u2_u2, Int.natCast_add, Int.zero_add, Int.add_zero, ↓reduceIte, ne_eq, not_true_eq_false, not_false_eq_true, Int.natCast_one, Int.le_refl]
  · rintro j ⟨x, g5, g6, B⟩ hj ⟨h1, h2, h3, h4⟩
    dsimp only at h1 h2 h3 h4 ⊢
    have hR3 : mR R (u2 (u2 I 59 0 0) 59 56 x) (ua (ua A2 85 g5) 86 g6) := by
      have a : mR R (u2 (u2 (u2 I 59 0 0) 59 56 (-1)) 59 56 x) (ua (ua A2 85 g5) 86 g6) := (hR2.fi (K := [(59, 56)]) (fi.refl.f rfl) rfl).fr (L := [85, 86]) ((fr.refl.a rfl).a rfl) rfl
      rwa [u2_u2] at a
    obtain ⟨g', l5', l6', l10', r1, r2⟩ := m_mtRow (d := d) (W := W) (row := j) (rows := N) (l10 := B.2.2.2.2.2) (M := htM R F s) (g := g) hR3 (by omega) hg
    have ec : ua (ua (ua A2 85 g5) 86 g6) 85 g' = ua (ua A2 85 g') 86 g6 := by
      funext c'
      by_cases q1 : c' = 85
      · subst q1; rw [ua_s, ua_n (by decide), ua_s]
      · by_cases q2 : c' = 86
        · subst q2; rw [ua_n (by decide), ua_s, ua_s]
        · rw [ua_n q1, ua_n q2, ua_n q1, ua_n q2, ua_n q1]
    rw [ec] at r2
    have hz := htZ_r (C := rC R) (n := rW R) (M := htM R F s) (P := rPn R) (row := j) (by rw [← hN]; exact hj)
    have sb := htS_b (C := rC R) (n := rW R) (P := rPn R) (f := htD (rW R + 1) (rC R) j) (k := rC R) hP (Nat.le_refl _)
    have e23 : u2 (u2 I 59 0 0) 59 56 x 59 23 = rC R := e2
    have e100 : q_run qm_X11_findMatch (q_call q_MT d) 100 [.ref 59, .int (zI ((rW R : Int) + 1)), .int (zI N), .ref (90 + (dyn W).length), .int (zI j), B.1, B.2.1, B.2.2.1, B.2.2.2.1, B.2.2.2.2.1, B.2.2.2.2.2] [] (zM (u2 (u2 I 59 0 0) 59 56 x) (ua (ua A2 85 g5) 86 g6) (axs W [bE g])) = q_run qm_X11_findMatch (q_call q_MT d) 127 [.ref 59, .int (zI ((rW R : Int) + 1)), .int (zI N), .ref (90 + (dyn W).length), .int (zI j), .int (zI j), .int (zI 0), .int (zI 0), .int (zI 1), .int (zI ((rC R : Int) - 1)), B.2.2.2.2.2] [] (zM (u2 (u2 I 59 0 0) 59 56 x) (ua (ua A2 85 g5) 86 g6) (axs W [bE g])) := by
      rw [k_X11_findMatch_100]
      simp (implicitDefEqProofs := false) (disch := omega) only [↓rI_s, ↓rV_s, ↓rI_e, ↓rV_e, zc_eq, zc_ne, zc_lt, zc_ge, zc_gt, zc_le, zlt_t, zlt_f, zle_t, zle_f, zeq_t, zeq_f, lz, zadd, zsub, zmul, zneg, zb_e0, zb_e1, boo0, boo1, ua_s, ua_n, ua_ua, up_s, u2_s, u2_f, u2_c, u2_u2, Int.natCast_add, Int.zero_add, Int.add_zero, ↓reduceIte, ne_eq, not_true_eq_false, not_false_eq_true, Int.natCast_one, ↓zg_59_23, e2]
    rw [e100, r2, k_X11_findMatch_127]
    generalize hsm : htS (rC R) (rW R) (rPn R) (htD (rW R + 1) (rC R) j) (rC R) = sm at hz sb
    have vV : mtV R F s = htB (rC R) (rW R) (htM R F s) (rPn R) (rC R) (fun _ => false) := rfl
    cases b : (htE (rC R) (rW R) (htM R F s) (htD (rW R + 1) (rC R) j) (rC R)).2
    · rw [b] at hz
      have nj : j ≠ htZ (rC R) (rW R) (htM R F s) (rPn R) := fun e => by cases (hz.2 e).1
      refine .inr ⟨(x, g', g6, .int l5', .int l6', .int (zI sm), .int (zI 0), .int (zI (-1)), l10'), ⟨h1, h2, fun hh => h3 (by omega), fun hh => h4 (by omega)⟩, ?_⟩
      have i0 : bI false = 0 := rfl
      rw [i0]
      simp (implicitDefEqProofs := false) (disch := omega) only [↓rI_s, ↓rV_s, ↓rI_e, ↓rV_e, zc_eq, zc_ne, zc_lt, zc_ge, zc_gt, zc_le, zlt_t, zlt_f, zle_t, zle_f, zeq_t, zeq_f, lz, zadd, zsub, zmul, zneg, zb_e0, zb_e1, boo0, boo1, ua_s, ua_n, ua_ua, up_s, u2_s, u2_f, u2_c, u2_u2, Int.natCast_add, Int.zero_add, Int.add_zero, ↓reduceIte, ne_eq, not_true_eq_false, not_false_eq_true, Int.natCast_one, ↓k_X11_findMatch_280]
    · rw [b] at hz
      obtain ⟨z1, z2⟩ := hz.1 rfl
      have i1 : bI true = 1 := rfl
      rw [i1]
      by_cases q : x < sm
      · have co := m_copies_85_86 (d := d) (I := u2 (u2 I 59 0 0) 59 56 sm) (A := ua (ua A2 85 g') 86 g6) (W := axs W [bE g]) (n := 4) (by omega) (by omega)
        have n4 : ((4 : Nat) : Int) = 4 := rfl
        rw [n4, ua_ua, ua_n (c' := 85) (by decide), ua_s, ua_s] at co
        refine .inr ⟨(sm, g', cpy 4 g' g6, .int l5', .int l6', .int (zI sm), .int (zI 1), .int (zI (-1)), l10'), ⟨by dsimp only; omega, z1, fun hh => ?_, fun hh => ?_⟩, ?_⟩
        · exact z2 (by omega)
        · dsimp only
          by_cases e : j = htZ (rC R) (rW R) (htM R F s) (rPn R)
          · obtain ⟨-, y2, y3⟩ := hz.2 e
            refine ⟨y2, fun c hc => ?_⟩
            rw [cpy_t (by omega) (by omega), r1 c hc, y3 c hc]
            unfold htG
            have lo := htF_lo (C := rC R) (n := rW R) (M := htM R F s) (P := rPn R) (k := rC R - (c + 1)) (u := htU (rC R) (rW R) (htM R F s) (rPn R) c)
            have hi := htF_hi (C := rC R) (n := rW R) (M := htM R F s) (P := rPn R) (k := rC R - (c + 1)) (u := htU (rC R) (rW R) (htM R F s) (rPn R) c)
            have eg : htGv (rC R) (rW R) (htM R F s) (rPn R) c = htF (rC R) (rW R) (htM R F s) (rPn R) (rC R - (c + 1)) (htU (rC R) (rW R) (htM R F s) (rPn R) c) := rfl
            show _ = htGv (rC R) (rW R) (htM R F s) (rPn R) c
            rw [← eg] at lo hi
            by_cases r : htGv (rC R) (rW R) (htM R F s) (rPn R) c = -1
            · rw [if_pos r, if_pos rfl, r]
            · rw [if_neg r, if_neg (by omega)]; omega
          · have := (h4 (by omega)).1
            omega
        · simp (implicitDefEqProofs := false) (disch := omega) only [↓rI_s, ↓rV_s, ↓rI_e, ↓rV_e, zc_eq, zc_ne, zc_lt, zc_ge, zc_gt, zc_le, zlt_t, zlt_f, zle_t, zle_f, zeq_t, zeq_f, lz, zadd, zsub, zmul, zneg, zb_e0, zb_e1, boo0, boo1, ua_s, ua_n, ua_ua, up_s, u2_s, u2_f, u2_c, u2_u2, Int.natCast_add, Int.zero_add, Int.add_zero, ↓reduceIte, ne_eq, not_true_eq_false, not_false_eq_true, Int.natCast_one, ↓zg_59_56, ↓zp_59_56, ↓zg_59_54, ↓zg_59_55, ↓mc_59, ↓cV co, ↓k_X11_findMatch_280]
      · refine .inr ⟨(x, g', g6, .int l5', .int l6', .int (zI sm), .int (zI 1), .int (zI (-1)), l10'), ⟨h1, h2, fun hh => ?_, fun hh => ?_⟩, ?_⟩
        · exact h3 (by omega)
        · by_cases e : j = htZ (rC R) (rW R) (htM R F s) (rPn R)
          · obtain ⟨-, y2, -⟩ := hz.2 e
            have := h3 (by omega)
            omega
          · exact h4 (by omega)
        · simp (implicitDefEqProofs := false) (disch := omega) only [↓rI_s, ↓rV_s, ↓rI_e, ↓rV_e, zc_eq, zc_ne, zc_lt, zc_ge, zc_gt, zc_le, zlt_t, zlt_f, zle_t, zle_f, zeq_t, zeq_f, lz, zadd, zsub, zmul, zneg, zb_e0, zb_e1, boo0, boo1, ua_s, ua_n, ua_ua, up_s, u2_s, u2_f, u2_c, u2_u2, Int.natCast_add, Int.zero_add, Int.add_zero, ↓reduceIte, ne_eq, not_true_eq_false, not_false_eq_true, Int.natCast_one, ↓zg_59_56, ↓k_X11_findMatch_280]
theorem M_match (hd : 13 ≤ d) (hX : mX R F s I A) : mOut I A W (q_call q_MT d 253 [.ref 59] (zM I A W)) 0 (mtV R F s) 2 := by
  obtain ⟨d, rfl⟩ : ∃ e, d = e + 1 := ⟨d - 1, by omega⟩
  obtain ⟨I1, A1, g, f1, f2, h0, h1, -, e⟩ := m_findMatch (W := W) (d := d) (by omega) hX
  refine .inl ⟨rfl, I1, A1, [bE g], f1.wd rfl, f2.wd rfl, h0, .inr ⟨_, rfl⟩, ?_⟩
  rw [cl_X11_match]
  simp (implicitDefEqProofs := false) (disch := omega) only [↓rI_s, ↓rV_s, ↓rI_e, ↓rV_e, zc_eq, zc_ne, zc_lt, zc_ge, zc_gt, zc_le, zlt_t, zlt_f, zle_t, zle_f, zeq_t, zeq_f, lz, zadd, zsub, zmul, zneg, zb_e0, zb_e1, boo0, boo1, ua_s, ua_n, ua_ua, up_s, u2_s, u2_f, u2_c, u2_u2, Int.natCast_add, Int.zero_add, Int.add_zero, ↓reduceIte, ne_eq, not_true_eq_false, not_false_eq_true, Int.natCast_one, ↓k_X11_match_0, ↓zp_59_0, ↓mc_59, ↓cV e, ↓zg_59_56, h1]
theorem M_matched {c : Int} (hd : 13 ≤ d) (hX : mX R F s I A) (hc : wI c) : mOut I A W (q_call q_MT d 254 [.ref 59, .int (zI c)] (zM I A W)) (if 0 ≤ c ∧ c < rC R then 0 else 1) (mtG R F s c.toNat) 2 := by
  obtain ⟨d, rfl⟩ : ∃ e, d = e + 1 := ⟨d - 1, by omega⟩
  have hR := hX.1
  have hc4 := hR.1.2.2.1
  have e2 := hR.2.2.2.1
  rw [cl_X11_matched]
  by_cases q : 0 ≤ c ∧ c < rC R
  · rw [if_pos q]
    obtain ⟨I1, A1, g, f1, f2, h0, h1, h2, e⟩ := m_findMatch (W := W) (d := d) (by omega) hX
    have g' := h2 c.toNat (by omega)
    rw [Int.toNat_of_nonneg q.1] at g'
    refine .inl ⟨rfl, I1, A1, [bE g], f1.wd rfl, f2.wd rfl, h0, .inr ⟨_, rfl⟩, ?_⟩
    simp (implicitDefEqProofs := false) (disch := omega) only [↓rI_s, ↓rV_s, ↓rI_e, ↓rV_e, zc_eq, zc_ne, zc_lt, zc_ge, zc_gt, zc_le, zlt_t, zlt_f, zle_t, zle_f, zeq_t, zeq_f, lz, zadd, zsub, zmul, zneg, zb_e0, zb_e1, boo0, boo1, ua_s, ua_n, ua_ua, up_s, u2_s, u2_f, u2_c, u2_u2, Int.natCast_add, Int.zero_add, Int.add_zero, ↓reduceIte, ne_eq, not_true_eq_false, not_false_eq_true, Int.natCast_one, ↓k_X11_matched_0, ↓mc_59, ↓zp_59_0, s_within, s_within_f, s_isPress, s_isPress_f, s_isWink (show 2 ≤ d by omega) hR, s_isWink_f (show 2 ≤ d by omega) hR, s_isHouse (show 2 ≤ d by omega) hR, s_isHouse_f (show 2 ≤ d by omega) hR, s_may1, s_may0, m_take (show 2 ≤ d by omega), ↓zg_59_23, e2, ↓cV e, ↓zg_59_55, zl_86, g']
  · rw [if_neg q]
    exact mOut.ns (by simp (implicitDefEqProofs := false) (disch := omega) only [↓rI_s, ↓rV_s, ↓rI_e, ↓rV_e, zc_eq, zc_ne, zc_lt, zc_ge, zc_gt, zc_le, zlt_t, zlt_f, zle_t, zle_f, zeq_t, zeq_f, lz, zadd, zsub, zmul, zneg, zb_e0, zb_e1, boo0, boo1, ua_s, ua_n, ua_ua, up_s, u2_s, u2_f, u2_c, u2_u2, Int.natCast_add, Int.zero_add, Int.add_zero, ↓reduceIte, ne_eq, not_true_eq_false, not_false_eq_true, Int.natCast_one, ↓k_X11_matched_0, ↓mc_59, ↓zp_59_0, s_within, s_within_f, s_isPress, s_isPress_f, s_isWink (show 2 ≤ d by omega) hR, s_isWink_f (show 2 ≤ d by omega) hR, s_isHouse (show 2 ≤ d by omega) hR, s_isHouse_f (show 2 ≤ d by omega) hR, s_may1, s_may0, m_take (show 2 ≤ d by omega), ↓zg_59_23, e2])
end MS
