--DEPS a4.matm
theorem htS_b {C n : Nat} {P : Nat → Int} {f : Nat → Nat} (hP : ∀ c, c < C → 1 ≤ P c ∧ P c ≤ 99) : ∀ {k : Nat}, k ≤ C → 0 ≤ htS C n P f k ∧ htS C n P f k ≤ 99 * k
  | 0, _ => by show (0 : Int) ≤ 0 ∧ (0 : Int) ≤ _; omega
  | k + 1, hk => by
    have ih := htS_b (n := n) (f := f) hP (k := k) (by omega)
    have hp := hP (C - (k + 1)) (by omega)
    show 0 ≤ htS C n P f k + (if f (C - (k + 1)) = n then 0 else P (C - (k + 1))) ∧ htS C n P f k + (if f (C - (k + 1)) = n then 0 else P (C - (k + 1))) ≤ _
    split <;> omega
section MR
variable {d : Nat} {I : Nat → Nat → Int} {A : Nat → Int → Int} {W : qWt} {R : zR} {F : zF} {s : Int → Int} {g : Int → Int}
theorem m_mtRow {row rows : Nat} {l10 : Value} {M : Nat → Nat → Bool} (hR : mR R I A) (hr : row < 20000) (hg : ∀ c w : Nat, c < rC R → w < rW R → g (10 * (c : Int) + w) = bI (M c w)) : ∃ (g' : Int → Int) (l5 l6 : Int32) (l10' : Value), (∀ c : Nat, c < rC R → g' c = if htD (rW R + 1) (rC R) row c = rW R then -1 else (htD (rW R + 1) (rC R) row c : Int)) ∧ q_run qm_X11_findMatch (q_call q_MT d) 127 [.ref 59, .int (zI ((rW R : Int) + 1)), .int (zI rows), .ref (90 + (dyn W).length), .int (zI row), .int (zI row), .int (zI 0), .int (zI 0), .int (zI 1), .int (zI ((rC R : Int) - 1)), l10] [] (zM I A (axs W [bE g])) = q_run qm_X11_findMatch (q_call q_MT d) 127 [.ref 59, .int (zI ((rW R : Int) + 1)), .int (zI rows), .ref (90 + (dyn W).length), .int (zI row), .int l5, .int l6, .int (zI (htS (rC R) (rW R) (rPn R) (htD (rW R + 1) (rC R) row) (rC R))), .int (zI (bI (htE (rC R) (rW R) M (htD (rW R + 1) (rC R) row) (rC R)).2)), .int (zI (-1)), l10'] [] (zM I (ua A 85 g') (axs W [bE g])) := by
  have hw := hR.1.2.1
  have hc4 := hR.1.2.2.1
  have e1 := hR.2.2.1
  have hP : ∀ c, c < rC R → 1 ≤ rPn R c ∧ rPn R c ≤ 99 := fun c h => hR.1.p (by omega) (by omega)
  generalize hD : htD (rW R + 1) (rC R) row = D
  have hid : ua A 85 (A 85) = A := ua_id
  conv => enter [1, g', 1, l5, 1, l6, 1, l10', 2, 1]; rw [← hid]
  have st : ∀ (k : Nat), k ≤ rC R → ∀ (g' : Int → Int) (l10 : Value), (∀ c : Nat, rC R - k ≤ c → c < rC R → g' c = if D c = rW R then -1 else (D c : Int)) → ∃ (g'' : Int → Int) (l5 l6 : Int32) (l10' : Value), (∀ c : Nat, c < rC R → g'' c = if D c = rW R then -1 else (D c : Int)) ∧ q_run qm_X11_findMatch (q_call q_MT d) 127 [.ref 59, .int (zI ((rW R : Int) + 1)), .int (zI rows), .ref (90 + (dyn W).length), .int (zI row), .int (zI ((row / (rW R + 1) ^ k : Nat) : Int)), .int (zI (bts (rW R) (htE (rC R) (rW R) M D k).1)), .int (zI (htS (rC R) (rW R) (rPn R) D k)), .int (zI (bI (htE (rC R) (rW R) M D k).2)), .int (zI ((rC R : Int) - 1 - k)), l10] [] (zM I (ua A 85 g') (axs W [bE g])) = q_run qm_X11_findMatch (q_call q_MT d) 127 [.ref 59, .int (zI ((rW R : Int) + 1)), .int (zI rows), .ref (90 + (dyn W).length), .int (zI row), .int l5, .int l6, .int (zI (htS (rC R) (rW R) (rPn R) D (rC R))), .int (zI (bI (htE (rC R) (rW R) M D (rC R)).2)), .int (zI (-1)), l10'] [] (zM I (ua A 85 g'') (axs W [bE g])) := by
    intro k hk
    obtain ⟨j, hj⟩ : ∃ j, rC R = k + j := ⟨rC R - k, by omega⟩
    induction j generalizing k with
    | zero =>
      intro g' l10 h
      obtain rfl : k = rC R := by omega
      refine ⟨g', zI ((row / (rW R + 1) ^ rC R : Nat) : Int), zI (bts (rW R) (htE (rC R) (rW R) M D (rC R)).1), l10, fun c hc => h c (by omega) hc, ?_⟩
      · rw [show (rC R : Int) - 1 - rC R = -1 by omega]
    | succ j ih =>
      intro g' l10 h
      have hDc : D (rC R - (k + 1)) = row / (rW R + 1) ^ k % (rW R + 1) := by
        rw [← hD]; unfold htD
        rw [show rC R - (rC R - (k + 1) + 1) = k by omega]
      have hdd : row / (rW R + 1) ^ (k + 1) = row / (rW R + 1) ^ k / (rW R + 1) := by
        rw [Nat.pow_succ, Nat.div_div_eq_div_mul]
      have xb : row / (rW R + 1) ^ k ≤ row := Nat.div_le_self _ _
      obtain ⟨c, hc⟩ : ∃ c, rC R - (k + 1) = c := ⟨_, rfl⟩
      have cc : (rC R : Int) - 1 - k = c := by omega
      have cc' : (rC R : Int) - 1 - ((k + 1 : Nat) : Int) = (c : Int) - 1 := by omega
      have eH : htE (rC R) (rW R) M D (k + 1) = if D c = rW R then htE (rC R) (rW R) M D k else (htA (htE (rC R) (rW R) M D k).1 (D c), (htE (rC R) (rW R) M D k).2 && (M c (D c) && !(htE (rC R) (rW R) M D k).1 (D c))) := by
        rw [← hc]; rfl
      have eS : htS (rC R) (rW R) (rPn R) D (k + 1) = htS (rC R) (rW R) (rPn R) D k + (if D c = rW R then 0 else rP R c) := by
        rw [← hc]; rfl
      have sb := htS_b (C := rC R) (n := rW R) (P := rPn R) (f := D) (k := k) hP hk
      have pb : 1 ≤ rP R c ∧ rP R c ≤ 99 := hP c (by omega)
      have ep : A 67 (2 * (c : Int) + 1) = rP R c := hR.2.2.2.2.2.2.2.2.2 c (by omega) (by omega)
      have IH := ih (k + 1) (by omega) (by omega)
      rw [hdd, cc', eH, eS] at IH
      rw [hc] at hDc
      rw [cc]
      generalize hx : row / (rW R + 1) ^ k = x at hDc xb IH
      have hxm : (x : Int) - ((x / (rW R + 1) : Nat) : Int) * ((rW R : Int) + 1) = (D c : Int) := by
        rw [hDc]
        have := Nat.div_add_mod x (rW R + 1)
        have e2 : ((rW R + 1 : Nat) : Int) * ((x / (rW R + 1) : Nat) : Int) + ((x % (rW R + 1) : Nat) : Int) = x := by
          rw [← Int.natCast_mul, ← Int.natCast_add, this]
        rw [Int.natCast_add, Int.natCast_one] at e2
        rw [Int.mul_comm]; omega
      have hxd : (x : Int) / ((rW R : Int) + 1) = ((x / (rW R + 1) : Nat) : Int) := by
        rw [Int.natCast_ediv]; rfl
      have hDle : D c < rW R + 1 := by rw [hDc]; exact Nat.mod_lt _ (by omega)
      have xd : x / (rW R + 1) ≤ x := Nat.div_le_self _ _
      have nz : ¬ (zI ((rW R : Int) + 1) = zI 0) := by
        simp (implicitDefEqProofs := false) (disch := omega) only [↓rI_s, ↓rV_s, ↓rI_e, ↓rV_e, zc_eq, zc_ne, zc_lt, zc_ge, zc_gt, zc_le, zlt_t, zlt_f, zle_t, zle_f, zeq_t, zeq_f, lz, zadd, zsub, zmul, zneg, zb_e0, zb_e1, boo0, boo1, ua_s, ua_n, ua_ua, up_s, u2_s, u2_f, u2_c, u2_u2, Int.natCast_add, Int.zero_add, Int.add_zero, ↓reduceIte, ne_eq, not_true_eq_false, not_false_eq_true, Int.natCast_one]
      by_cases q : D c = rW R
      · rw [if_pos q, if_pos q, Int.add_zero] at IH
        have qI : (D c : Int) = rW R := by omega
        obtain ⟨g'', l5, l6, l10', y1, y2⟩ := IH (up g' c (-1)) (.int (zI (D c))) fun c' h1 h2 => by
          by_cases e : c' = c
          · subst e; rw [up_s, if_pos q]
          · rw [up_n (by omega)]; exact h c' (by omega) h2
        refine ⟨g'', l5, l6, l10', y1, ?_⟩
        rw [k_X11_findMatch_127]
        simp (implicitDefEqProofs := false) (disch := omega) only [↓rI_s, ↓rV_s, ↓rI_e, ↓rV_e, zc_eq, zc_ne, zc_lt, zc_ge, zc_gt, zc_le, zlt_t, zlt_f, zle_t, zle_f, zeq_t, zeq_f, lz, zadd, zsub, zmul, zneg, zb_e0, zb_e1, boo0, boo1, ua_s, ua_n, ua_ua, up_s, u2_s, u2_f, u2_c, u2_u2, Int.natCast_add, Int.zero_add, Int.add_zero, ↓reduceIte, ne_eq, not_true_eq_false, not_false_eq_true, Int.natCast_one, zdiv, hxd, hxm, nz, ↓zg_59_54, ↓zg_59_22, e1, ↓k_X11_findMatch_165, zs_85, qI, ↓k_X11_findMatch_238]
        rw [qI] at y2
        exact y2
      · rw [if_neg q, if_neg q] at IH
        have qI : ¬ (D c : Int) = rW R := by omega
        obtain ⟨g'', l5, l6, l10', y1, y2⟩ := IH (up g' c (D c)) (.int (zI (D c))) fun c' h1 h2 => by
          by_cases e : c' = c
          · subst e; rw [up_s, if_neg q]
          · rw [up_n (by omega)]; exact h c' (by omega) h2
        refine ⟨g'', l5, l6, l10', y1, ?_⟩
        have gm := hg c (D c) (by omega) (by omega)
        have eo : zI (bts (rW R) (htE (rC R) (rW R) M D k).1) ||| (zI 1 <<< (zI (D c : Int) &&& zI 31)) = zI (bts (rW R) (htA (htE (rC R) (rW R) M D k).1 (D c))) := by
          rw [bts_1 hw (by omega), bts_or]
          congr 1
          exact bts_cg fun i _ => by unfold htA; rw [Bool.or_comm]
        have eb := bts_bit (p := (htE (rC R) (rW R) M D k).1) (n := rW R) (j := D c) hw (by omega)
        rw [k_X11_findMatch_127]
        cases b1 : (htE (rC R) (rW R) M D k).2
        · rw [b1, Bool.false_and] at y2
          have i0 : bI false = 0 := rfl
          rw [i0] at y2 ⊢
          simp (implicitDefEqProofs := false) (disch := omega) only [↓rI_s, ↓rV_s, ↓rI_e, ↓rV_e, zc_eq, zc_ne, zc_lt, zc_ge, zc_gt, zc_le, zlt_t, zlt_f, zle_t, zle_f, zeq_t, zeq_f, lz, zadd, zsub, zmul, zneg, zb_e0, zb_e1, boo0, boo1, ua_s, ua_n, ua_ua, up_s, u2_s, u2_f, u2_c, u2_u2, Int.natCast_add, Int.zero_add, Int.add_zero, ↓reduceIte, ne_eq, not_true_eq_false, not_false_eq_true, Int.natCast_one, zdiv, hxd, hxm, nz, ↓zg_59_54, ↓zg_59_22, e1, ↓k_X11_findMatch_165, zs_85, ↓k_X11_findMatch_210, ↓k_X11_findMatch_211, ↓zg_59_15, zl_67, ep, eo, ↓k_X11_findMatch_238]
          exact y2
        · rw [b1, Bool.true_and] at y2
          have i0 : bI false = 0 := rfl
          have i1 : bI true = 1 := rfl
          cases b2 : M c (D c)
          · rw [b2, i0] at gm
            rw [b2, Bool.false_and, i0] at y2
            rw [i1]
            simp (implicitDefEqProofs := false) (disch := omega) only [↓rI_s, ↓rV_s, ↓rI_e, ↓rV_e, zc_eq, zc_ne, zc_lt, zc_ge, zc_gt, zc_le, zlt_t, zlt_f, zle_t, zle_f, zeq_t, zeq_f, lz, zadd, zsub, zmul, zneg, zb_e0, zb_e1, boo0, boo1, ua_s, ua_n, ua_ua, up_s, u2_s, u2_f, u2_c, u2_u2, Int.natCast_add, Int.zero_add, Int.add_zero, ↓reduceIte, ne_eq, not_true_eq_false, not_false_eq_true, Int.natCast_one, zdiv, hxd, hxm, nz, ↓zg_59_54, ↓zg_59_22, e1, ↓k_X11_findMatch_165, zs_85, zb_ld, gm, ↓k_X11_findMatch_210, ↓k_X11_findMatch_211, ↓zg_59_15, zl_67, ep, eo, ↓k_X11_findMatch_238]
            exact y2
          · rw [b2, i1] at gm
            rw [b2, Bool.true_and] at y2
            rw [i1]
            cases b3 : (htE (rC R) (rW R) M D k).1 (D c)
            · rw [b3, if_neg (by decide)] at eb
              rw [b3, Bool.not_false, i1] at y2
              simp (implicitDefEqProofs := false) (disch := omega) only [↓rI_s, ↓rV_s, ↓rI_e, ↓rV_e, zc_eq, zc_ne, zc_lt, zc_ge, zc_gt, zc_le, zlt_t, zlt_f, zle_t, zle_f, zeq_t, zeq_f, lz, zadd, zsub, zmul, zneg, zb_e0, zb_e1, boo0, boo1, ua_s, ua_n, ua_ua, up_s, u2_s, u2_f, u2_c, u2_u2, Int.natCast_add, Int.zero_add, Int.add_zero, ↓reduceIte, ne_eq, not_true_eq_false, not_false_eq_true, Int.natCast_one, zdiv, hxd, hxm, nz, ↓zg_59_54, ↓zg_59_22, e1, ↓k_X11_findMatch_165, zs_85, zb_ld, gm, eb, ↓k_X11_findMatch_210, ↓k_X11_findMatch_211, ↓zg_59_15, zl_67, ep, eo, ↓k_X11_findMatch_238]
              exact y2
            · rw [b3, if_pos rfl] at eb
              rw [b3, Bool.not_true, i0] at y2
              simp (implicitDefEqProofs := false) (disch := omega) only [↓rI_s, ↓rV_s, ↓rI_e, ↓rV_e, zc_eq, zc_ne, zc_lt, zc_ge, zc_gt, zc_le, zlt_t, zlt_f, zle_t, zle_f, zeq_t, zeq_f, lz, zadd, zsub, zmul, zneg, zb_e0, zb_e1, boo0, boo1, ua_s, ua_n, ua_ua, up_s, u2_s, u2_f, u2_c, u2_u2, Int.natCast_add, Int.zero_add, Int.add_zero, ↓reduceIte, ne_eq, not_true_eq_false, not_false_eq_true, Int.natCast_one, zdiv, hxd, hxm, nz, ↓zg_59_54, ↓zg_59_22, e1, ↓k_X11_findMatch_165, zs_85, zb_ld, gm, eb, ↓k_X11_findMatch_210, ↓k_X11_findMatch_211, ↓zg_59_15, zl_67, ep, eo, ↓k_X11_findMatch_238]
              exact y2
  have := st 0 (by omega) (A 85) l10 (fun c h1 h2 => by omega)
  have b0 : bts (rW R) (htE (rC R) (rW R) M D 0).1 = 0 := bts_z.mpr fun _ _ h => by cases h
  have s0 : htS (rC R) (rW R) (rPn R) D 0 = 0 := rfl
  have i0 : bI (htE (rC R) (rW R) M D 0).2 = 1 := rfl
  have n0 : ((0 : Nat) : Int) = 0 := rfl
  rw [b0, s0, i0, Nat.pow_zero, Nat.div_one, n0, Int.sub_zero] at this
  exact this
end MR
