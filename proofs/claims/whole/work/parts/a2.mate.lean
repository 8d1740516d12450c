--DEPS a1.matd
def cmI (R : zR) (F : zF) (s : Int → Int) (w j : Nat) (g : Int → Int) : Prop := ∀ c : Nat, c < rC R → g c = bts (rW R) fun v => (decide (v < w) && htM R F s c v) || (decide (v = w) && hitB R F s c w j)
theorem cmI.n {R : zR} {F : zF} {s : Int → Int} {w : Nat} {g : Int → Int} (h : cmI R F s w 18 g) : cmI R F s (w + 1) 0 g := fun c hc => by
  rw [h c hc]
  refine bts_cg fun v _ => ?_
  by_cases e : v = w
  · subst e
    simp [hitB, htM]
  · by_cases q : v < w
    · simp [hitB, htM, e, q, show v < w + 1 by omega]
    · simp [hitB, htM, e, q, show ¬ v < w + 1 by omega]
theorem cmI.r {R : zR} {F : zF} {s : Int → Int} {w j : Nat} {g : Int → Int} (hw : rW R ≤ 10) (hj : w < rW R) (h : cmI R F s w j g) {c : Nat} (hc : c < rC R) (hx : chit R F s w ((j : Int) / 2 + 1) ((j : Int) % 2) = c) : ∃ x, zI (g c) ||| (zI 1 <<< (zI (w : Int) &&& zI 31)) = zI x ∧ cmI R F s w (j + 1) (up g c x) := by
  refine ⟨_, by rw [h c hc, bts_1 hw hj, bts_or], fun c' hc' => ?_⟩
  have es : ∀ c'' v, hitB R F s c'' v (j + 1) = (hitB R F s c'' v j || decide (chit R F s v ((j : Int) / 2 + 1) ((j : Int) % 2) = c'')) := fun _ _ => rfl
  by_cases e : c' = c
  · subst e
    rw [up_s]
    refine bts_cg fun v _ => ?_
    rw [es, hx]
    by_cases e : v = w
    · subst e; simp
    · simp [e]
  · rw [up_n (by omega), h c' hc']
    refine bts_cg fun v _ => ?_
    rw [es, hx]
    have : decide ((c : Int) = (c' : Int)) = false := decide_eq_false (by omega)
    rw [this, Bool.or_false]
theorem cmI.z {R : zR} {F : zF} {s : Int → Int} {w j : Nat} {g : Int → Int} (h : cmI R F s w j g) (hx : chit R F s w ((j : Int) / 2 + 1) ((j : Int) % 2) = -1) : cmI R F s w (j + 1) g := fun c' hc' => by
  rw [h c' hc']
  have es : ∀ c'' v, hitB R F s c'' v (j + 1) = (hitB R F s c'' v j || decide (chit R F s v ((j : Int) / 2 + 1) ((j : Int) % 2) = c'')) := fun _ _ => rfl
  refine bts_cg fun v _ => ?_
  rw [es, hx]
  have : decide ((-1 : Int) = (c' : Int)) = false := decide_eq_false (by omega)
  rw [this, Bool.or_false]
section ME
variable {d : Nat} {I : Nat → Nat → Int} {A : Nat → Int → Int} {W : qWt} {R : zR} {F : zF} {s : Int → Int}
theorem c_com1 {w j : Nat} {l4 : Value} (hd : 4 ≤ d) (hX : cX R F s I A) (h1 : w < rW R) (hj : j < 18) (h : cmI R F s w j (A 49)) : ∃ A' l4', fr [22, 23, 49] A A' ∧ cmI R F s w (j + 1) (A' 49) ∧ q_run qm_X0_findComers (q_call q_MT d) 49 [.ref 45, .int (zI w), .int (zI ((j : Int) / 2 + 1)), .int (zI ((j : Int) % 2)), l4] [] (zM I A W) = q_run qm_X0_findComers (q_call q_MT d) 49 [.ref 45, .int (zI w), .int (zI ((j : Int) / 2 + 1)), .int (zI ((j : Int) % 2 + 1)), l4'] [] (zM I A' W) := by
  have hR := hX.1
  have hw := hR.1.2.1
  have hc4 := hR.1.2.2.1
  obtain ⟨A1, f, e⟩ := c_cupHit (p := (j : Int) / 2 + 1) (h := (j : Int) % 2) (W := W) hd hX (w := w) (by omega) (by omega) (by omega)
  have cb := chit_b (R := R) (F := F) (s := s) (w := w) (p := (j : Int) / 2 + 1) (h := (j : Int) % 2)
  have e49 : A1 49 = A 49 := f 49 rfl
  by_cases q : chit R F s w ((j : Int) / 2 + 1) ((j : Int) % 2) = -1
  · refine ⟨A1, .int (zI (-1)), f.wd rfl, by rw [e49]; exact h.z q, ?_⟩
    rw [k_X0_findComers_49]
    rw [q] at e
    simp (implicitDefEqProofs := false) (disch := omega) only [↓rI_s, ↓rV_s, ↓rI_e, ↓rV_e, zc_eq, zc_ne, zc_lt, zc_ge, zc_gt, zc_le, zlt_t, zlt_f, zle_t, zle_f, zeq_t, zeq_f, lz, zadd, zsub, zmul, zneg, zb_e0, zb_e1, boo0, boo1, ua_s, ua_n, ua_ua, up_s, u2_s, u2_f, u2_c, u2_u2, Int.natCast_add, Int.zero_add, Int.add_zero, ↓reduceIte, ne_eq, not_true_eq_false, not_false_eq_true, Int.natCast_one, ↓mc_45, ↓cI e, ↓k_X0_findComers_82]
  · obtain ⟨c, hc⟩ := Int.eq_ofNat_of_zero_le (show 0 ≤ chit R F s w ((j : Int) / 2 + 1) ((j : Int) % 2) by omega)
    obtain ⟨x, x1, x2⟩ := h.r hw h1 (c := c) (by omega) hc
    rw [← e49] at x1 x2
    refine ⟨ua A1 49 (up (A1 49) c x), .int (zI c), (f.wd rfl).a rfl, by rw [ua_s]; exact x2, ?_⟩
    rw [k_X0_findComers_49]
    rw [hc] at e
    simp (implicitDefEqProofs := false) (disch := omega) only [↓rI_s, ↓rV_s, ↓rI_e, ↓rV_e, zc_eq, zc_ne, zc_lt, zc_ge, zc_gt, zc_le, zlt_t, zlt_f, zle_t, zle_f, zeq_t, zeq_f, lz, zadd, zsub, zmul, zneg, zb_e0, zb_e1, boo0, boo1, ua_s, ua_n, ua_ua, up_s, u2_s, u2_f, u2_c, u2_u2, Int.natCast_add, Int.zero_add, Int.add_zero, ↓reduceIte, ne_eq, not_true_eq_false, not_false_eq_true, Int.natCast_one, ↓mc_45, ↓cI e, ↓k_X0_findComers_82, ↓zg_45_6, zl_49, x1, zs_49]
theorem c_findComers (hd : 5 ≤ d) (hX : cX R F s I A) : ∃ A', fr [22, 23, 49] A A' ∧ (∀ c : Nat, c < rC R → A' 49 c = bts (rW R) (htM R F s c)) ∧ q_call q_MT d 12 [.ref 45] (zM I A W) = some (.inl none, zM I A' W) := by
  obtain ⟨d, rfl⟩ : ∃ e, d = e + 1 := ⟨d - 1, by omega⟩
  have hR := hX.1
  have hw := hR.1.2.1
  have hc4 := hR.1.2.2.1
  have e1 := hR.2.2.1
  have e2 := hR.2.2.2.1
  rw [cl_X0_findComers]
  simp (implicitDefEqProofs := false) (disch := omega) only [↓rI_s, ↓rV_s, ↓rI_e, ↓rV_e, zc_eq, zc_ne, zc_lt, zc_ge, zc_gt, zc_le, zlt_t, zlt_f, zle_t, zle_f, zeq_t, zeq_f, lz, zadd, zsub, zmul, zneg, zb_e0, zb_e1, boo0, boo1, ua_s, ua_n, ua_ua, up_s, u2_s, u2_f, u2_c, u2_u2, Int.natCast_add, Int.zero_add, Int.add_zero, ↓reduceIte, ne_eq, not_true_eq_false, not_false_eq_true, Int.natCast_one, ↓k_X0_findComers_0]
  have z1 : ∃ g, cmI R F s 0 0 g ∧ q_run qm_X0_findComers (q_call q_MT d) 2 [.ref 45, .int (zI 0), q_junk, q_junk, q_junk] [] (zM I A W) = q_run qm_X0_findComers (q_call q_MT d) 28 [.ref 45, .int (zI 0), q_junk, q_junk, q_junk] [] (zM I (ua A 49 g) W) := by
    have hid : ua A 49 (A 49) = A := ua_id
    conv => enter [1, g, 2, 1]; rw [← hid]
    refine lp_x (fun j (g : Int → Int) => q_run qm_X0_findComers (q_call q_MT d) 2 [.ref 45, .int (zI j), q_junk, q_junk, q_junk] [] (zM I (ua A 49 g) W)) (fun j g => ∀ c : Int, 0 ≤ c → c < j → g c = 0) (fun r => ∃ g, cmI R F s 0 0 g ∧ r = q_run qm_X0_findComers (q_call q_MT d) 28 [.ref 45, .int (zI 0), q_junk, q_junk, q_junk] [] (zM I (ua A 49 g) W)) (rC R) ?_ ?_ 0 (A 49) (by omega) (fun c c0 c1 => by omega)
    · intro g hg
      refine ⟨g, fun c hc => ?_, ?_⟩
      · rw [hg c (by omega) (by omega)]
        exact (bts_z.mpr fun k _ => by simp [hitB]).symm
      · rw [k_X0_findComers_2]
        simp (implicitDefEqProofs := false) (disch := omega) only [↓rI_s, ↓rV_s, ↓rI_e, ↓rV_e, zc_eq, zc_ne, zc_lt, zc_ge, zc_gt, zc_le, zlt_t, zlt_f, zle_t, zle_f, zeq_t, zeq_f, lz, zadd, zsub, zmul, zneg, zb_e0, zb_e1, boo0, boo1, ua_s, ua_n, ua_ua, up_s, u2_s, u2_f, u2_c, u2_u2, Int.natCast_add, Int.zero_add, Int.add_zero, ↓reduceIte, ne_eq, not_true_eq_false, not_false_eq_true, Int.natCast_one, ↓zg_45_0, ↓zg_5_2, e2, Int.le_refl]
    · intro j g hj hg
      refine .inr ⟨up g j 0, fun c c0 c1 => ?_, ?_⟩
      · by_cases e : c = j
        · subst e; rw [up_s]
        · rw [up_n (by omega)]; exact hg c c0 (by omega)
      · rw [k_X0_findComers_2]
        simp (implicitDefEqProofs := false) (disch := omega) only [↓rI_s, ↓rV_s, ↓rI_e, ↓rV_e, zc_eq, zc_ne, zc_lt, zc_ge, zc_gt, zc_le, zlt_t, zlt_f, zle_t, zle_f, zeq_t, zeq_f, lz, zadd, zsub, zmul, zneg, zb_e0, zb_e1, boo0, boo1, ua_s, ua_n, ua_ua, up_s, u2_s, u2_f, u2_c, u2_u2, Int.natCast_add, Int.zero_add, Int.add_zero, ↓reduceIte, ne_eq, not_true_eq_false, not_false_eq_true, Int.natCast_one, ↓zg_45_0, ↓zg_5_2, e2, ↓zg_45_6, zs_49]
  obtain ⟨g, hg, ez⟩ := z1
  rw [ez]
  refine lp_x (fun j (B : (Nat → Int → Int) × Value × Value × Value) => q_run qm_X0_findComers (q_call q_MT d) 28 [.ref 45, .int (zI j), B.2.1, B.2.2.1, B.2.2.2] [] (zM I B.1 W)) (fun j B => fr [22, 23, 49] A B.1 ∧ cmI R F s j 0 (B.1 49)) (fun r => ∃ A', fr [22, 23, 49] A A' ∧ (∀ c : Nat, c < rC R → A' 49 c = bts (rW R) (htM R F s c)) ∧ r = some (.inl none, zM I A' W)) (rW R) ?_ ?_ 0 (ua A 49 g, q_junk, q_junk, q_junk) (by omega) ⟨fr.refl.a rfl, by dsimp only; rw [ua_s]; exact hg⟩
  · rintro ⟨B, l2, l3, l4⟩ ⟨f, h⟩
    refine ⟨B, f, fun c hc => ?_, ?_⟩
    · dsimp only at h
      rw [h c hc]
      exact bts_cg fun v hv => by simp [hv, hitB]
    · dsimp only
      rw [k_X0_findComers_28]
      simp (implicitDefEqProofs := false) (disch := omega) only [↓rI_s, ↓rV_s, ↓rI_e, ↓rV_e, zc_eq, zc_ne, zc_lt, zc_ge, zc_gt, zc_le, zlt_t, zlt_f, zle_t, zle_f, zeq_t, zeq_f, lz, zadd, zsub, zmul, zneg, zb_e0, zb_e1, boo0, boo1, ua_s, ua_n, ua_ua, up_s, u2_s, u2_f, u2_c, u2_u2, Int.natCast_add, Int.zero_add, Int.add_zero, ↓reduceIte, ne_eq, not_true_eq_false, not_false_eq_true, Int.natCast_one, ↓zg_45_0, ↓zg_5_1, e1, Int.le_refl]
  · rintro w ⟨B, l2, l3, l4⟩ hw1 ⟨f, h⟩
    dsimp only at f h ⊢
    -- the presses
    have z2 : ∃ B' l2' l3' l4', (fr [22, 23, 49] A B' ∧ cmI R F s (w + 1) 0 (B' 49)) ∧ q_run qm_X0_findComers (q_call q_MT d) 41 [.ref 45, .int (zI w), .int (zI ((0 : Nat) + 1)), l3, l4] [] (zM I B W) = q_run qm_X0_findComers (q_call q_MT d) 28 [.ref 45, .int (zI (w + 1)), l2', l3', l4'] [] (zM I B' W) := by
      refine lp_x (fun j (B : (Nat → Int → Int) × Value × Value) => q_run qm_X0_findComers (q_call q_MT d) 41 [.ref 45, .int (zI w), .int (zI (j + 1)), B.2.1, B.2.2] [] (zM I B.1 W)) (fun j B => fr [22, 23, 49] A B.1 ∧ cmI R F s w (2 * j) (B.1 49)) (fun r => ∃ B' l2' l3' l4', (fr [22, 23, 49] A B' ∧ cmI R F s (w + 1) 0 (B' 49)) ∧ r = q_run qm_X0_findComers (q_call q_MT d) 28 [.ref 45, .int (zI (w + 1)), l2', l3', l4'] [] (zM I B' W)) 9 ?_ ?_ 0 (B, l3, l4) (by omega) ⟨f, h⟩
      · rintro ⟨B, l3, l4⟩ ⟨f, h⟩
        refine ⟨B, .int (zI ((9 : Nat) + 1)), l3, l4, ⟨f, h.n⟩, ?_⟩
        dsimp only
        rw [k_X0_findComers_41]
        simp (implicitDefEqProofs := false) (disch := omega) only [↓rI_s, ↓rV_s, ↓rI_e, ↓rV_e, zc_eq, zc_ne, zc_lt, zc_ge, zc_gt, zc_le, zlt_t, zlt_f, zle_t, zle_f, zeq_t, zeq_f, lz, zadd, zsub, zmul, zneg, zb_e0, zb_e1, boo0, boo1, ua_s, ua_n, ua_ua, up_s, u2_s, u2_f, u2_c, u2_u2, Int.natCast_add, Int.zero_add, Int.add_zero, ↓reduceIte, ne_eq, not_true_eq_false, not_false_eq_true, Int.natCast_one]
      · rintro j ⟨B, l3, l4⟩ hj ⟨f, h⟩
        dsimp only at f h ⊢
        have e1 : ((2 * j : Nat) : Int) / 2 = j := by omega
        have e2 : ((2 * j : Nat) : Int) % 2 = 0 := by omega
        have e3 : ((2 * j + 1 : Nat) : Int) / 2 = j := by omega
        have e4 : ((2 * j + 1 : Nat) : Int) % 2 = 1 := by omega
        obtain ⟨B1, l5, f1, h1, g1⟩ := c_com1 (j := 2 * j) (l4 := l4) (W := W) (show 4 ≤ d by omega) (hX.t fi.refl (f.wd rfl)) hw1 (by omega) h
        obtain ⟨B2, l6, f2, h2, g2⟩ := c_com1 (j := 2 * j + 1) (l4 := l5) (W := W) (show 4 ≤ d by omega) (hX.t fi.refl ((f.tr f1).wd rfl)) hw1 (by omega) h1
        rw [e1, e2] at g1
        rw [e3, e4] at g2
        refine .inr ⟨(B2, .int (zI (1 + 1)), l6), ⟨(f.tr f1).tr f2, h2⟩, ?_⟩
        rw [k_X0_findComers_41]
        simp (implicitDefEqProofs := false) (disch := omega) only [↓rI_s, ↓rV_s, ↓rI_e, ↓rV_e, zc_eq, zc_ne, zc_lt, zc_ge, zc_gt, zc_le, zlt_t, zlt_f, zle_t, zle_f, zeq_t, zeq_f, lz, zadd, zsub, zmul, zneg, zb_e0, zb_e1, boo0, boo1, ua_s, ua_n, ua_ua, up_s, u2_s, u2_f, u2_c, u2_u2, Int.natCast_add, Int.zero_add, Int.add_zero, ↓reduceIte, ne_eq, not_true_eq_false, not_false_eq_true, Int.natCast_one]
        rw [g1, show (0 : Int) + 1 = 1 by decide, g2, k_X0_findComers_49]
        simp (implicitDefEqProofs := false) (disch := omega) only [↓rI_s, ↓rV_s, ↓rI_e, ↓rV_e, zc_eq, zc_ne, zc_lt, zc_ge, zc_gt, zc_le, zlt_t, zlt_f, zle_t, zle_f, zeq_t, zeq_f, lz, zadd, zsub, zmul, zneg, zb_e0, zb_e1, boo0, boo1, ua_s, ua_n, ua_ua, up_s, u2_s, u2_f, u2_c, u2_u2, Int.natCast_add, Int.zero_add, Int.add_zero, ↓reduceIte, ne_eq, not_true_eq_false, not_false_eq_true, Int.natCast_one]
    obtain ⟨B', l2', l3', l4', h', e⟩ := z2
    refine .inr ⟨(B', l2', l3', l4'), h', ?_⟩
    have e0 : ((0 : Nat) : Int) + 1 = 1 := rfl
    rw [e0] at e
    rw [k_X0_findComers_28]
    simp (implicitDefEqProofs := false) (disch := omega) only [↓rI_s, ↓rV_s, ↓rI_e, ↓rV_e, zc_eq, zc_ne, zc_lt, zc_ge, zc_gt, zc_le, zlt_t, zlt_f, zle_t, zle_f, zeq_t, zeq_f, lz, zadd, zsub, zmul, zneg, zb_e0, zb_e1, boo0, boo1, ua_s, ua_n, ua_ua, up_s, u2_s, u2_f, u2_c, u2_u2, Int.natCast_add, Int.zero_add, Int.add_zero, ↓reduceIte, ne_eq, not_true_eq_false, not_false_eq_true, Int.natCast_one, ↓zg_45_0, ↓zg_5_1, e1]
    exact e
end ME
