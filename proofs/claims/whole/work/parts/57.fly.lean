--DEPS 56.law
/-! The law in both, and what a flick comes to. -/
theorem cR.fr {R : zR} {I : Nat → Nat → Int} {A A' : Nat → Int → Int} {L : List Nat} (h : cR R I A) (f : fr L A A') (g : (L.contains 7 || L.contains 8 || L.contains 10 || L.contains 11) = false) : cR R I A' := by
  simp only [Bool.or_eq_false_iff] at g
  unfold cR
  rw [f 7 g.1.1.1, f 8 g.1.1.2, f 10 g.1.2, f 11 g.2]; exact h
theorem mR.fr {R : zR} {I : Nat → Nat → Int} {A A' : Nat → Int → Int} {L : List Nat} (h : mR R I A) (f : fr L A A') (g : (L.contains 66 || L.contains 67) = false) : mR R I A' := by
  simp only [Bool.or_eq_false_iff] at g
  unfold mR
  rw [f 66 g.1, f 67 g.2]; exact h
theorem cL.fr {F : zF} {I : Nat → Nat → Int} {A A' : Nat → Int → Int} {L : List Nat} (h : cL F I A) (f : fr L A A') (g : L.contains 20 = false) : cL F I A' := by
  unfold cL
  rw [f 20 g]; exact h
theorem mL.fr {F : zF} {I : Nat → Nat → Int} {A A' : Nat → Int → Int} {L : List Nat} (h : mL F I A) (f : fr L A A') (g : (L.contains 70 || L.contains 71) = false) : mL F I A' := by
  simp only [Bool.or_eq_false_iff] at g
  unfold mL
  rw [f 70 g.1, f 71 g.2]; exact h
theorem rz {a b : Int} {h : qH} (e : a = b) : (some (.inl (some (.int (zI a))), h) : qR) = some (.inl (some (.int (zI b))), h) := by rw [e]
def seeF (p sz np dm un sh x dy co : Int) (j : Int) : Int := if j = 0 then p else if j = 1 then sz else if j = 2 then np else if j = 3 then dm else if j = 4 then un else if j = 5 then sh else if j = 6 then x else if j = 7 then dy else co
theorem mL.w {F : zF} {I : Nat → Nat → Int} {A : Nat → Int → Int} (h : mL F I A) : wF F := by
  rcases h with ⟨-, h⟩ | ⟨cs, n, -, -, -, h3, h4⟩
  · refine ⟨fun f => by rw [h]; exact ⟨clp_lo _, clp_hi _⟩, fun f g hf => ?_⟩
    rw [h, h]
    congr 2
    rw [← zsub, ← zsub, ← zadd, ← zmul, ← zsub, ← zsub, ← zadd, ← zmul, hf 0 (by decide) (by decide), hf 2 (by decide) (by decide), hf 3 (by decide) (by decide), hf 4 (by decide) (by decide)]
  · refine ⟨fun f => by rw [h4]; exact ⟨clp_lo _, clp_hi _⟩, fun f g hf => ?_⟩
    rw [h4, h4, evF, evF, evg_cg h3 hf n (Nat.le_refl n)]
theorem nine {P : Int → Prop} (h0 : P 0) (h1 : P 1) (h2 : P 2) (h3 : P 3) (h4 : P 4) (h5 : P 5) (h6 : P 6) (h7 : P 7) (h8 : P 8) (j : Int) (a : 0 ≤ j) (b : j < 9) : P j := by
  have : j = 0 ∨ j = 1 ∨ j = 2 ∨ j = 3 ∨ j = 4 ∨ j = 5 ∨ j = 6 ∨ j = 7 ∨ j = 8 := by omega
  rcases this with rfl | rfl | rfl | rfl | rfl | rfl | rfl | rfl | rfl <;> assumption
def fl (R : zR) (F : zF) (s : Int → Int) (w p u x : Int) : Int := F (seeF p (rS R w) (rN R) (s 46) u (s (20 + w)) x (s 45) (s (40 + rO R w)))
def flA (R : zR) (F : zF) (s : Int → Int) (w p : Int) : Int := if s w < 0 then 0 else fl R F s w p (s (10 + w)) (s w)
def dn (R : zR) (F : zF) (s : Int → Int) (w p h : Int) : Int := if s w + (if h = 0 then flA R F s w p else -flA R F s w p) < 0 ∨ rF R ≤ s w + (if h = 0 then flA R F s w p else -flA R F s w p) then -2 else s w + (if h = 0 then flA R F s w p else -flA R F s w p)
theorem flA_b {R : zR} {F : zF} (hF : wF F) (s : Int → Int) (w p : Int) : 0 ≤ flA R F s w p ∧ flA R F s w p ≤ 60 := by
  unfold flA
  split
  · omega
  · exact hF.1 _
theorem wR.o {R : zR} (h : wR R) {w : Int} (h0 : 0 ≤ w) (h1 : w < rW R) : 0 ≤ rO R w ∧ rO R w < rH R := h.2.2.2.2.2.2.2.1 w h0 h1
section ML
variable {d : Nat} {I : Nat → Nat → Int} {A : Nat → Int → Int} {W : qWt} {R : zR} {F : zF}
theorem m_valueNow {cs : Int → Int} {n : Nat} (hd : 2 ≤ d) (hn : I 59 32 = n) (hcs : ∀ k : Int, 0 ≤ k → k < n → (2000 ≤ cs k → A 70 k = cs k - 1998) ∧ (cs k < 1000 → A 70 k = 0 ∧ A 71 k = cs k) ∧ (1000 ≤ cs k → cs k < 2000 → A 70 k = 1 ∧ A 71 k = cs k - 1000)) (hl : lawOK cs n) : ∃ A', fr [72] A A' ∧ q_call q_MT d 198 [.ref 59] (zM I A W) = some (.inl (some (.int (zI (evg (A 73) cs n 0)))), zM I A' W) := by
  obtain ⟨d, rfl⟩ : ∃ e, d = e + 1 := ⟨d - 1, by omega⟩
  obtain ⟨h150, h1, hok⟩ := hl
  rw [cl_X11_valueNow]
  simp (implicitDefEqProofs := false) (disch := omega) only [↓rI_s, ↓rV_s, ↓rI_e, ↓rV_e, zc_eq, zc_ne, zc_lt, zc_ge, zc_gt, zc_le, zlt_t, zlt_f, zle_t, zle_f, zeq_t, zeq_f, lz, zadd, zsub, zmul, zneg, zb_e0, zb_e1, boo0, boo1, ua_s, ua_n, ua_ua, up_s, u2_s, u2_f, u2_c, u2_u2, Int.natCast_add, Int.zero_add, Int.add_zero, ↓reduceIte, ne_eq, not_true_eq_false, not_false_eq_true, Int.natCast_one, ↓k_X11_valueNow_0, ↓k_X11_valueNow_53, ↓k_X11_valueNow_89, ↓zg_59_32, ↓zg_59_28, zl_70, zs_70, ↓zn_70, ↓zg_59_30, zl_72, zs_72, ↓zn_72, ↓zg_59_29, zl_71, zs_71, ↓zn_71, ↓zg_59_33, zl_73, zs_73, ↓zn_73]
  have h22 : ua A 72 (A 72) = A := ua_id
  conv => enter [1, A', 2, 1]; rw [← h22]
  refine lp_x (fun j (x : (Int → Int) × Value) => q_run qm_X11_valueNow (q_call q_MT d) 4 [.ref 59, .int (zI (hgt cs j)), .int (zI j), x.2] [] (zM I (ua A 72 x.1) W)) (fun j x => ∀ i : Int, 0 ≤ i → i < hgt cs j → zI (x.1 i) = zI (evg (A 73) cs j i)) (fun r => ∃ A', fr [72] A A' ∧ r = some (.inl (some (.int (zI (evg (A 73) cs n 0)))), zM I A' W)) n ?_ ?_ 0 (A 72, q_junk) (by omega) (fun i h0 h1 => absurd h1 (by show ¬ i < (0 : Int); omega))
  · rintro ⟨st, l4⟩ hi
    refine ⟨ua A 72 st, fr.refl.a rfl, ?_⟩
    dsimp only
    rw [k_X11_valueNow_4]
    simp (implicitDefEqProofs := false) (disch := omega) only [↓rI_s, ↓rV_s, ↓rI_e, ↓rV_e, zc_eq, zc_ne, zc_lt, zc_ge, zc_gt, zc_le, zlt_t, zlt_f, zle_t, zle_f, zeq_t, zeq_f, lz, zadd, zsub, zmul, zneg, zb_e0, zb_e1, boo0, boo1, ua_s, ua_n, ua_ua, up_s, u2_s, u2_f, u2_c, u2_u2, Int.natCast_add, Int.zero_add, Int.add_zero, ↓reduceIte, ne_eq, not_true_eq_false, not_false_eq_true, Int.natCast_one, ↓k_X11_valueNow_0, ↓k_X11_valueNow_53, ↓k_X11_valueNow_89, ↓zg_59_32, ↓zg_59_28, zl_70, zs_70, ↓zn_70, ↓zg_59_30, zl_72, zs_72, ↓zn_72, ↓zg_59_29, zl_71, zs_71, ↓zn_71, ↓zg_59_33, zl_73, zs_73, ↓zn_73, hn, Int.le_refl]
    rw [hi 0 (by omega) (by omega)]
  · rintro j ⟨st, l4⟩ hj hi
    refine .inr ?_
    have hk := hok j hj
    have hc := hcs j (by omega) (by omega)
    dsimp only at hi ⊢
    rw [k_X11_valueNow_4]
    by_cases h2 : 2000 ≤ cs j
    · have hc1 := hc.1 h2
      refine ⟨(up st (hgt cs j - 2) (lop (cs j) (st (hgt cs j - 2)) (st (hgt cs j - 1))), .int (zI (cs j - 1998))), ?_, ?_⟩
      · intro i q0 q1
        rw [hgt_t h2] at q1
        dsimp only
        unfold evg
        rw [if_pos h2]
        unfold up
        split
        · exact lop_cg (hi _ (by omega) (by omega)) (hi _ (by omega) (by omega))
        · exact hi _ (by omega) (by omega)
      · rw [hgt_t h2]
        clear hc
        simp (implicitDefEqProofs := false) (disch := omega) only [↓rI_s, ↓rV_s, ↓rI_e, ↓rV_e, zc_eq, zc_ne, zc_lt, zc_ge, zc_gt, zc_le, zlt_t, zlt_f, zle_t, zle_f, zeq_t, zeq_f, lz, zadd, zsub, zmul, zneg, zb_e0, zb_e1, boo0, boo1, ua_s, ua_n, ua_ua, up_s, u2_s, u2_f, u2_c, u2_u2, Int.natCast_add, Int.zero_add, Int.add_zero, ↓reduceIte, ne_eq, not_true_eq_false, not_false_eq_true, Int.natCast_one, ↓k_X11_valueNow_0, ↓k_X11_valueNow_53, ↓k_X11_valueNow_89, ↓zg_59_32, ↓zg_59_28, zl_70, zs_70, ↓zn_70, ↓zg_59_30, zl_72, zs_72, ↓zn_72, ↓zg_59_29, zl_71, zs_71, ↓zn_71, ↓zg_59_33, zl_73, zs_73, ↓zn_73, hn, hc1]
        rw [lw_both (by omega) h2 (by omega)]
        simp (implicitDefEqProofs := false) (disch := omega) only [↓rI_s, ↓rV_s, ↓rI_e, ↓rV_e, zc_eq, zc_ne, zc_lt, zc_ge, zc_gt, zc_le, zlt_t, zlt_f, zle_t, zle_f, zeq_t, zeq_f, lz, zadd, zsub, zmul, zneg, zb_e0, zb_e1, boo0, boo1, ua_s, ua_n, ua_ua, up_s, u2_s, u2_f, u2_c, u2_u2, Int.natCast_add, Int.zero_add, Int.add_zero, ↓reduceIte, ne_eq, not_true_eq_false, not_false_eq_true, Int.natCast_one, ↓k_X11_valueNow_0, ↓k_X11_valueNow_53, ↓k_X11_valueNow_89, ↓zg_59_32, ↓zg_59_28, zl_70, zs_70, ↓zn_70, ↓zg_59_30, zl_72, zs_72, ↓zn_72, ↓zg_59_29, zl_71, zs_71, ↓zn_71, ↓zg_59_33, zl_73, zs_73, ↓zn_73]
        rw [show hgt cs j + -1 - 1 = hgt cs j - 2 by omega, show hgt cs j + -1 = hgt cs j - 1 by omega]
    · by_cases h3 : cs j < 1000
      · have hc1 := hc.2.1 h3
        refine ⟨(up st (hgt cs j) (cs j), .int (zI 0)), ?_, ?_⟩
        · intro i q0 q1
          rw [hgt_f h2] at q1
          dsimp only
          unfold evg
          rw [if_neg h2, if_pos h3]
          unfold up
          split
          · rfl
          · exact hi _ (by omega) (by omega)
        · rw [hgt_f h2]
          clear hc
          simp (implicitDefEqProofs := false) (disch := omega) only [↓rI_s, ↓rV_s, ↓rI_e, ↓rV_e, zc_eq, zc_ne, zc_lt, zc_ge, zc_gt, zc_le, zlt_t, zlt_f, zle_t, zle_f, zeq_t, zeq_f, lz, zadd, zsub, zmul, zneg, zb_e0, zb_e1, boo0, boo1, ua_s, ua_n, ua_ua, up_s, u2_s, u2_f, u2_c, u2_u2, Int.natCast_add, Int.zero_add, Int.add_zero, ↓reduceIte, ne_eq, not_true_eq_false, not_false_eq_true, Int.natCast_one, ↓k_X11_valueNow_0, ↓k_X11_valueNow_53, ↓k_X11_valueNow_89, ↓zg_59_32, ↓zg_59_28, zl_70, zs_70, ↓zn_70, ↓zg_59_30, zl_72, zs_72, ↓zn_72, ↓zg_59_29, zl_71, zs_71, ↓zn_71, ↓zg_59_33, zl_73, zs_73, ↓zn_73, hn, hc1.1, hc1.2]
      · have hc1 := hc.2.2 (by omega) (by omega)
        refine ⟨(up st (hgt cs j) (A 73 (cs j - 1000)), .int (zI 1)), ?_, ?_⟩
        · intro i q0 q1
          rw [hgt_f h2] at q1
          dsimp only
          unfold evg
          rw [if_neg h2, if_neg h3]
          unfold up
          split
          · rfl
          · exact hi _ (by omega) (by omega)
        · rw [hgt_f h2]
          clear hc
          simp (implicitDefEqProofs := false) (disch := omega) only [↓rI_s, ↓rV_s, ↓rI_e, ↓rV_e, zc_eq, zc_ne, zc_lt, zc_ge, zc_gt, zc_le, zlt_t, zlt_f, zle_t, zle_f, zeq_t, zeq_f, lz, zadd, zsub, zmul, zneg, zb_e0, zb_e1, boo0, boo1, ua_s, ua_n, ua_ua, up_s, u2_s, u2_f, u2_c, u2_u2, Int.natCast_add, Int.zero_add, Int.add_zero, ↓reduceIte, ne_eq, not_true_eq_false, not_false_eq_true, Int.natCast_one, ↓k_X11_valueNow_0, ↓k_X11_valueNow_53, ↓k_X11_valueNow_89, ↓zg_59_32, ↓zg_59_28, zl_70, zs_70, ↓zn_70, ↓zg_59_30, zl_72, zs_72, ↓zn_72, ↓zg_59_29, zl_71, zs_71, ↓zn_71, ↓zg_59_33, zl_73, zs_73, ↓zn_73, hn, hc1.1, hc1.2]
theorem m_clp {B : Nat → List Value → qH → qR} {v : Int32} {h : qH} {l0 l1 : Value} : q_run qm_X11_fliesNow B 43 [l0, l1] [.int v] h = some (.inl (some (.int (zI (clp v.toInt)))), h) := by
  have h60 : (zI 60).toInt = 60 := by decide
  have h0 : (zI 0).toInt = 0 := by decide
  unfold clp
  by_cases h1 : v.toInt < 0
  · have q : (zI 0 ≤ v) = False := by rw [Int32.le_iff_toInt_le, h0]; exact eq_false (by omega)
    simp (implicitDefEqProofs := false) (disch := omega) only [↓rI_s, ↓rV_s, ↓rI_e, ↓rV_e, zc_eq, zc_ne, zc_lt, zc_ge, zc_gt, zc_le, zlt_t, zlt_f, zle_t, zle_f, zeq_t, zeq_f, lz, zadd, zsub, zmul, zneg, zb_e0, zb_e1, boo0, boo1, ua_s, ua_n, ua_ua, up_s, u2_s, u2_f, u2_c, u2_u2, Int.natCast_add, Int.zero_add, Int.add_zero, ↓reduceIte, ne_eq, not_true_eq_false, not_false_eq_true, Int.natCast_one, ↓k_X11_fliesNow_0, ↓k_X11_fliesNow_43, ↓k_X11_fliesNow_64, ↓zg_59_32, ↓zg_59_33, zl_73, zs_73, ↓zn_73, ↓mc_59, q, h1]
  · have q : (zI 0 ≤ v) = True := by rw [Int32.le_iff_toInt_le, h0]; exact eq_true (by omega)
    by_cases h2 : 60 < v.toInt
    · have q2 : (v ≤ zI 60) = False := by rw [Int32.le_iff_toInt_le, h60]; exact eq_false (by omega)
      simp (implicitDefEqProofs := false) (disch := omega) only [↓rI_s, ↓rV_s, ↓rI_e, ↓rV_e, zc_eq, zc_ne, zc_lt, zc_ge, zc_gt, zc_le, zlt_t, zlt_f, zle_t, zle_f, zeq_t, zeq_f, lz, zadd, zsub, zmul, zneg, zb_e0, zb_e1, boo0, boo1, ua_s, ua_n, ua_ua, up_s, u2_s, u2_f, u2_c, u2_u2, Int.natCast_add, Int.zero_add, Int.add_zero, ↓reduceIte, ne_eq, not_true_eq_false, not_false_eq_true, Int.natCast_one, ↓k_X11_fliesNow_0, ↓k_X11_fliesNow_43, ↓k_X11_fliesNow_64, ↓zg_59_32, ↓zg_59_33, zl_73, zs_73, ↓zn_73, ↓mc_59, q, q2, h1, h2]
    · have q2 : (v ≤ zI 60) = True := by rw [Int32.le_iff_toInt_le, h60]; exact eq_true (by omega)
      simp (implicitDefEqProofs := false) (disch := omega) only [↓rI_s, ↓rV_s, ↓rI_e, ↓rV_e, zc_eq, zc_ne, zc_lt, zc_ge, zc_gt, zc_le, zlt_t, zlt_f, zle_t, zle_f, zeq_t, zeq_f, lz, zadd, zsub, zmul, zneg, zb_e0, zb_e1, boo0, boo1, ua_s, ua_n, ua_ua, up_s, u2_s, u2_f, u2_c, u2_u2, Int.natCast_add, Int.zero_add, Int.add_zero, ↓reduceIte, ne_eq, not_true_eq_false, not_false_eq_true, Int.natCast_one, ↓k_X11_fliesNow_0, ↓k_X11_fliesNow_43, ↓k_X11_fliesNow_64, ↓zg_59_32, ↓zg_59_33, zl_73, zs_73, ↓zn_73, ↓mc_59, q, q2, h1, h2]
      rw [zI_of]
theorem m_fliesNow (hd : 3 ≤ d) (hL : mL F I A) : ∃ A', fr [72] A A' ∧ q_call q_MT d 200 [.ref 59] (zM I A W) = some (.inl (some (.int (zI (F (A 73))))), zM I A' W) := by
  obtain ⟨d, rfl⟩ : ∃ e, d = e + 1 := ⟨d - 1, by omega⟩
  rw [cl_X11_fliesNow, k_X11_fliesNow_0]
  rcases hL with ⟨hz, hF⟩ | ⟨cs, n, h0, hn, hcs, hok, hF⟩
  · refine ⟨A, fr.refl, ?_⟩
    simp (implicitDefEqProofs := false) (disch := omega) only [↓rI_s, ↓rV_s, ↓rI_e, ↓rV_e, zc_eq, zc_ne, zc_lt, zc_ge, zc_gt, zc_le, zlt_t, zlt_f, zle_t, zle_f, zeq_t, zeq_f, lz, zadd, zsub, zmul, zneg, zb_e0, zb_e1, boo0, boo1, ua_s, ua_n, ua_ua, up_s, u2_s, u2_f, u2_c, u2_u2, Int.natCast_add, Int.zero_add, Int.add_zero, ↓reduceIte, ne_eq, not_true_eq_false, not_false_eq_true, Int.natCast_one, ↓zg_59_32, ↓zg_59_33, zl_73, hz, m_clp, hF]
  · obtain ⟨A', hf, e⟩ := m_valueNow (W := W) (show 2 ≤ d by omega) hn hcs hok
    refine ⟨A', hf, ?_⟩
    have := hok.1
    simp (implicitDefEqProofs := false) (disch := omega) only [↓rI_s, ↓rV_s, ↓rI_e, ↓rV_e, zc_eq, zc_ne, zc_lt, zc_ge, zc_gt, zc_le, zlt_t, zlt_f, zle_t, zle_f, zeq_t, zeq_f, lz, zadd, zsub, zmul, zneg, zb_e0, zb_e1, boo0, boo1, ua_s, ua_n, ua_ua, up_s, u2_s, u2_f, u2_c, u2_u2, Int.natCast_add, Int.zero_add, Int.add_zero, ↓reduceIte, ne_eq, not_true_eq_false, not_false_eq_true, Int.natCast_one, ↓zg_59_32, hn, ↓mc_59, e, m_clp]
    rw [hF, evF]
theorem m_fliesOf {p sz np dm un sh x dy co : Int} (hd : 4 ≤ d) (hL : mL F I A) : ∃ A', fr [72, 73] A A' ∧ q_call q_MT d 211 [.ref 59, .int (zI p), .int (zI sz), .int (zI np), .int (zI dm), .int (zI un), .int (zI sh), .int (zI x), .int (zI dy), .int (zI co)] (zM I A W) = some (.inl (some (.int (zI (F (seeF p sz np dm un sh x dy co))))), zM I A' W) := by
  obtain ⟨d, rfl⟩ : ∃ e, d = e + 1 := ⟨d - 1, by omega⟩
  have hw := hL.w
  rw [cl_X11_fliesOf]
  simp (implicitDefEqProofs := false) (disch := omega) only [↓rI_s, ↓rV_s, ↓rI_e, ↓rV_e, zc_eq, zc_ne, zc_lt, zc_ge, zc_gt, zc_le, zlt_t, zlt_f, zle_t, zle_f, zeq_t, zeq_f, lz, zadd, zsub, zmul, zneg, zb_e0, zb_e1, boo0, boo1, ua_s, ua_n, ua_ua, up_s, u2_s, u2_f, u2_c, u2_u2, Int.natCast_add, Int.zero_add, Int.add_zero, ↓reduceIte, ne_eq, not_true_eq_false, not_false_eq_true, Int.natCast_one, ↓k_X11_fliesOf_0, ↓k_X11_fliesOf_72, ↓zg_59_33, zl_73, zs_73, ↓zn_73, ↓mc_59]
  obtain ⟨A', hf, e⟩ := m_fliesNow (W := W) (show 3 ≤ d by omega) (hL.fr (A' := ua A 73 (up (up (up (up (up (up (up (up (up (A 73) 0 p) 1 sz) 2 np) 3 dm) 4 un) 5 sh) 6 x) 7 dy) 8 co)) (L := [73]) (fr.refl.a rfl) rfl)
  refine ⟨A', (fr.refl.a rfl).tr (hf.wd rfl), ?_⟩
  rw [e]
  simp (implicitDefEqProofs := false) (disch := omega) only [↓rI_s, ↓rV_s, ↓rI_e, ↓rV_e, zc_eq, zc_ne, zc_lt, zc_ge, zc_gt, zc_le, zlt_t, zlt_f, zle_t, zle_f, zeq_t, zeq_f, lz, zadd, zsub, zmul, zneg, zb_e0, zb_e1, boo0, boo1, ua_s, ua_n, ua_ua, up_s, u2_s, u2_f, u2_c, u2_u2, Int.natCast_add, Int.zero_add, Int.add_zero, ↓reduceIte, ne_eq, not_true_eq_false, not_false_eq_true, Int.natCast_one]
  refine rz (hw.2 _ _ ?_)
  exact nine rfl rfl rfl rfl rfl rfl rfl rfl rfl
theorem m_fliesBy {w p u x : Int} (hd : 5 ≤ d) (hR : mR R I A) (hL : mL F I A) (h0 : 0 ≤ w) (h1 : w < rW R) : ∃ A', fr [72, 73] A A' ∧ q_call q_MT d 212 [.ref 59, .int (zI w), .int (zI p), .int (zI u), .int (zI x)] (zM I A W) = some (.inl (some (.int (zI (fl R F (A 77) w p u x)))), zM I A' W) := by
  obtain ⟨d, rfl⟩ : ∃ e, d = e + 1 := ⟨d - 1, by omega⟩
  obtain ⟨A', hf, e⟩ := m_fliesOf (p := p) (sz := rS R w) (np := rN R) (dm := A 77 46) (un := u) (sh := A 77 (20 + w)) (x := x) (dy := A 77 45) (co := A 77 (40 + rO R w)) (W := W) (show 4 ≤ d by omega) hL
  refine ⟨A', hf, ?_⟩
  have hw := hR.1.2.1
  have hh := hR.1.1
  have ho := hR.1.o h0 h1
  have e1 := hR.2.2.2.2.2.2.1 w h0 h1
  have e2 := hR.2.2.2.2.2.2.2.1 w h0 h1
  have e3 := hR.2.2.2.2.2.1
  rw [cl_X11_fliesBy]
  simp (implicitDefEqProofs := false) (disch := omega) only [↓rI_s, ↓rV_s, ↓rI_e, ↓rV_e, zc_eq, zc_ne, zc_lt, zc_ge, zc_gt, zc_le, zlt_t, zlt_f, zle_t, zle_f, zeq_t, zeq_f, lz, zadd, zsub, zmul, zneg, zb_e0, zb_e1, boo0, boo1, ua_s, ua_n, ua_ua, up_s, u2_s, u2_f, u2_c, u2_u2, Int.natCast_add, Int.zero_add, Int.add_zero, ↓reduceIte, ne_eq, not_true_eq_false, not_false_eq_true, Int.natCast_one, ↓k_X11_fliesBy_0, ↓zg_59_14, zl_66, zs_66, ↓zn_66, ↓zg_59_25, ↓zg_59_43, zl_77, zs_77, ↓zn_77, ↓mc_59, e1, e2, e3]
  rw [e]
  simp (implicitDefEqProofs := false) (disch := omega) only [↓rI_s, ↓rV_s, ↓rI_e, ↓rV_e, zc_eq, zc_ne, zc_lt, zc_ge, zc_gt, zc_le, zlt_t, zlt_f, zle_t, zle_f, zeq_t, zeq_f, lz, zadd, zsub, zmul, zneg, zb_e0, zb_e1, boo0, boo1, ua_s, ua_n, ua_ua, up_s, u2_s, u2_f, u2_c, u2_u2, Int.natCast_add, Int.zero_add, Int.add_zero, ↓reduceIte, ne_eq, not_true_eq_false, not_false_eq_true, Int.natCast_one]
  rfl
theorem m_fliesAsItLies {w p : Int} (hd : 6 ≤ d) (hR : mR R I A) (hL : mL F I A) (hs : sB R (A 77)) (h0 : 0 ≤ w) (h1 : w < rW R) : ∃ A', fr [72, 73] A A' ∧ q_call q_MT d 213 [.ref 59, .int (zI w), .int (zI p)] (zM I A W) = some (.inl (some (.int (zI (flA R F (A 77) w p)))), zM I A' W) := by
  obtain ⟨d, rfl⟩ : ∃ e, d = e + 1 := ⟨d - 1, by omega⟩
  have hw := hR.1.2.1
  have hb := hs w h0 h1
  rw [cl_X11_fliesAsItLies]
  by_cases h : A 77 w < 0
  · refine ⟨A, fr.refl, ?_⟩
    simp (implicitDefEqProofs := false) (disch := omega) only [↓rI_s, ↓rV_s, ↓rI_e, ↓rV_e, zc_eq, zc_ne, zc_lt, zc_ge, zc_gt, zc_le, zlt_t, zlt_f, zle_t, zle_f, zeq_t, zeq_f, lz, zadd, zsub, zmul, zneg, zb_e0, zb_e1, boo0, boo1, ua_s, ua_n, ua_ua, up_s, u2_s, u2_f, u2_c, u2_u2, Int.natCast_add, Int.zero_add, Int.add_zero, ↓reduceIte, ne_eq, not_true_eq_false, not_false_eq_true, Int.natCast_one, ↓k_X11_fliesAsItLies_0, ↓k_X11_fliesAsItLies_38, ↓zg_59_43, zl_77, zs_77, ↓zn_77, ↓mc_59]
    rw [flA, if_pos h]
  · obtain ⟨A', hf, e⟩ := m_fliesBy (p := p) (u := A 77 (10 + w)) (x := A 77 w) (W := W) (show 5 ≤ d by omega) hR hL h0 h1
    refine ⟨A', hf, ?_⟩
    simp (implicitDefEqProofs := false) (disch := omega) only [↓rI_s, ↓rV_s, ↓rI_e, ↓rV_e, zc_eq, zc_ne, zc_lt, zc_ge, zc_gt, zc_le, zlt_t, zlt_f, zle_t, zle_f, zeq_t, zeq_f, lz, zadd, zsub, zmul, zneg, zb_e0, zb_e1, boo0, boo1, ua_s, ua_n, ua_ua, up_s, u2_s, u2_f, u2_c, u2_u2, Int.natCast_add, Int.zero_add, Int.add_zero, ↓reduceIte, ne_eq, not_true_eq_false, not_false_eq_true, Int.natCast_one, ↓k_X11_fliesAsItLies_0, ↓k_X11_fliesAsItLies_38, ↓zg_59_43, zl_77, zs_77, ↓zn_77, ↓mc_59]
    rw [e]
    simp (implicitDefEqProofs := false) (disch := omega) only [↓rI_s, ↓rV_s, ↓rI_e, ↓rV_e, zc_eq, zc_ne, zc_lt, zc_ge, zc_gt, zc_le, zlt_t, zlt_f, zle_t, zle_f, zeq_t, zeq_f, lz, zadd, zsub, zmul, zneg, zb_e0, zb_e1, boo0, boo1, ua_s, ua_n, ua_ua, up_s, u2_s, u2_f, u2_c, u2_u2, Int.natCast_add, Int.zero_add, Int.add_zero, ↓reduceIte, ne_eq, not_true_eq_false, not_false_eq_true, Int.natCast_one, ↓k_X11_fliesAsItLies_0, ↓k_X11_fliesAsItLies_38, ↓zg_59_43, zl_77, zs_77, ↓zn_77, ↓mc_59]
    rw [flA, if_neg h]
theorem m_comesTo {w p h : Int} (hd : 7 ≤ d) (hR : mR R I A) (hL : mL F I A) (hs : sB R (A 77)) (h0 : 0 ≤ w) (h1 : w < rW R) (hh : h = 0 ∨ h = 1) : ∃ A', fr [72, 73] A A' ∧ q_call q_MT d 214 [.ref 59, .int (zI w), .int (zI p), .int (zI h)] (zM I A W) = some (.inl (some (.int (zI (dn R F (A 77) w p h)))), zM I A' W) := by
  obtain ⟨d, rfl⟩ : ∃ e, d = e + 1 := ⟨d - 1, by omega⟩
  have hw := hR.1.2.1
  have hb := hs w h0 h1
  have hF := flA_b (R := R) hL.w (A 77) w p
  have hf1 := hR.1.2.2.2.1
  have hf2 := hR.1.2.2.2.2.1
  have hf3 := hR.2.2.2.2.1
  obtain ⟨A', hf, e⟩ := m_fliesAsItLies (p := p) (W := W) (show 6 ≤ d by omega) hR hL hs h0 h1
  refine ⟨A', hf, ?_⟩
  rw [cl_X11_comesTo]
  unfold dn
  rcases hh with rfl | rfl
  · simp (implicitDefEqProofs := false) (disch := omega) only [↓rI_s, ↓rV_s, ↓rI_e, ↓rV_e, zc_eq, zc_ne, zc_lt, zc_ge, zc_gt, zc_le, zlt_t, zlt_f, zle_t, zle_f, zeq_t, zeq_f, lz, zadd, zsub, zmul, zneg, zb_e0, zb_e1, boo0, boo1, ua_s, ua_n, ua_ua, up_s, u2_s, u2_f, u2_c, u2_u2, Int.natCast_add, Int.zero_add, Int.add_zero, ↓reduceIte, ne_eq, not_true_eq_false, not_false_eq_true, Int.natCast_one, ↓k_X11_comesTo_0, ↓k_X11_comesTo_28, ↓k_X11_comesTo_45, ↓k_X11_comesTo_52, ↓zg_59_43, zl_77, zs_77, ↓zn_77, ↓mc_59, ↓zg_59_24, e, hf3]
    by_cases q1 : A 77 w + flA R F (A 77) w p < 0
    · simp (implicitDefEqProofs := false) (disch := omega) only [↓rI_s, ↓rV_s, ↓rI_e, ↓rV_e, zc_eq, zc_ne, zc_lt, zc_ge, zc_gt, zc_le, zlt_t, zlt_f, zle_t, zle_f, zeq_t, zeq_f, lz, zadd, zsub, zmul, zneg, zb_e0, zb_e1, boo0, boo1, ua_s, ua_n, ua_ua, up_s, u2_s, u2_f, u2_c, u2_u2, Int.natCast_add, Int.zero_add, Int.add_zero, ↓reduceIte, ne_eq, not_true_eq_false, not_false_eq_true, Int.natCast_one, ↓k_X11_comesTo_0, ↓k_X11_comesTo_28, ↓k_X11_comesTo_45, ↓k_X11_comesTo_52, ↓zg_59_43, zl_77, zs_77, ↓zn_77, ↓mc_59, ↓zg_59_24, hf3, q1, true_or]
    · by_cases q2 : rF R ≤ A 77 w + flA R F (A 77) w p
      · simp (implicitDefEqProofs := false) (disch := omega) only [↓rI_s, ↓rV_s, ↓rI_e, ↓rV_e, zc_eq, zc_ne, zc_lt, zc_ge, zc_gt, zc_le, zlt_t, zlt_f, zle_t, zle_f, zeq_t, zeq_f, lz, zadd, zsub, zmul, zneg, zb_e0, zb_e1, boo0, boo1, ua_s, ua_n, ua_ua, up_s, u2_s, u2_f, u2_c, u2_u2, Int.natCast_add, Int.zero_add, Int.add_zero, ↓reduceIte, ne_eq, not_true_eq_false, not_false_eq_true, Int.natCast_one, ↓k_X11_comesTo_0, ↓k_X11_comesTo_28, ↓k_X11_comesTo_45, ↓k_X11_comesTo_52, ↓zg_59_43, zl_77, zs_77, ↓zn_77, ↓mc_59, ↓zg_59_24, hf3, q2, or_true]
      · simp (implicitDefEqProofs := false) (disch := omega) only [↓rI_s, ↓rV_s, ↓rI_e, ↓rV_e, zc_eq, zc_ne, zc_lt, zc_ge, zc_gt, zc_le, zlt_t, zlt_f, zle_t, zle_f, zeq_t, zeq_f, lz, zadd, zsub, zmul, zneg, zb_e0, zb_e1, boo0, boo1, ua_s, ua_n, ua_ua, up_s, u2_s, u2_f, u2_c, u2_u2, Int.natCast_add, Int.zero_add, Int.add_zero, ↓reduceIte, ne_eq, not_true_eq_false, not_false_eq_true, Int.natCast_one, ↓k_X11_comesTo_0, ↓k_X11_comesTo_28, ↓k_X11_comesTo_45, ↓k_X11_comesTo_52, ↓zg_59_43, zl_77, zs_77, ↓zn_77, ↓mc_59, ↓zg_59_24, hf3, q1, q2, or_false]
  · simp (implicitDefEqProofs := false) (disch := omega) only [↓rI_s, ↓rV_s, ↓rI_e, ↓rV_e, zc_eq, zc_ne, zc_lt, zc_ge, zc_gt, zc_le, zlt_t, zlt_f, zle_t, zle_f, zeq_t, zeq_f, lz, zadd, zsub, zmul, zneg, zb_e0, zb_e1, boo0, boo1, ua_s, ua_n, ua_ua, up_s, u2_s, u2_f, u2_c, u2_u2, Int.natCast_add, Int.zero_add, Int.add_zero, ↓reduceIte, ne_eq, not_true_eq_false, not_false_eq_true, Int.natCast_one, ↓k_X11_comesTo_0, ↓k_X11_comesTo_28, ↓k_X11_comesTo_45, ↓k_X11_comesTo_52, ↓zg_59_43, zl_77, zs_77, ↓zn_77, ↓mc_59, ↓zg_59_24, e, hf3, show ¬ (1 : Int) = 0 by decide]
    by_cases q1 : A 77 w + -flA R F (A 77) w p < 0
    · simp (implicitDefEqProofs := false) (disch := omega) only [↓rI_s, ↓rV_s, ↓rI_e, ↓rV_e, zc_eq, zc_ne, zc_lt, zc_ge, zc_gt, zc_le, zlt_t, zlt_f, zle_t, zle_f, zeq_t, zeq_f, lz, zadd, zsub, zmul, zneg, zb_e0, zb_e1, boo0, boo1, ua_s, ua_n, ua_ua, up_s, u2_s, u2_f, u2_c, u2_u2, Int.natCast_add, Int.zero_add, Int.add_zero, ↓reduceIte, ne_eq, not_true_eq_false, not_false_eq_true, Int.natCast_one, ↓k_X11_comesTo_0, ↓k_X11_comesTo_28, ↓k_X11_comesTo_45, ↓k_X11_comesTo_52, ↓zg_59_43, zl_77, zs_77, ↓zn_77, ↓mc_59, ↓zg_59_24, hf3, q1, true_or]
    · by_cases q2 : rF R ≤ A 77 w + -flA R F (A 77) w p
      · simp (implicitDefEqProofs := false) (disch := omega) only [↓rI_s, ↓rV_s, ↓rI_e, ↓rV_e, zc_eq, zc_ne, zc_lt, zc_ge, zc_gt, zc_le, zlt_t, zlt_f, zle_t, zle_f, zeq_t, zeq_f, lz, zadd, zsub, zmul, zneg, zb_e0, zb_e1, boo0, boo1, ua_s, ua_n, ua_ua, up_s, u2_s, u2_f, u2_c, u2_u2, Int.natCast_add, Int.zero_add, Int.add_zero, ↓reduceIte, ne_eq, not_true_eq_false, not_false_eq_true, Int.natCast_one, ↓k_X11_comesTo_0, ↓k_X11_comesTo_28, ↓k_X11_comesTo_45, ↓k_X11_comesTo_52, ↓zg_59_43, zl_77, zs_77, ↓zn_77, ↓mc_59, ↓zg_59_24, hf3, q2, or_true]
      · simp (implicitDefEqProofs := false) (disch := omega) only [↓rI_s, ↓rV_s, ↓rI_e, ↓rV_e, zc_eq, zc_ne, zc_lt, zc_ge, zc_gt, zc_le, zlt_t, zlt_f, zle_t, zle_f, zeq_t, zeq_f, lz, zadd, zsub, zmul, zneg, zb_e0, zb_e1, boo0, boo1, ua_s, ua_n, ua_ua, up_s, u2_s, u2_f, u2_c, u2_u2, Int.natCast_add, Int.zero_add, Int.add_zero, ↓reduceIte, ne_eq, not_true_eq_false, not_false_eq_true, Int.natCast_one, ↓k_X11_comesTo_0, ↓k_X11_comesTo_28, ↓k_X11_comesTo_45, ↓k_X11_comesTo_52, ↓zg_59_43, zl_77, zs_77, ↓zn_77, ↓mc_59, ↓zg_59_24, hf3, q1, q2, or_false]
end ML
section CF
variable {d : Nat} {I : Nat → Nat → Int} {A : Nat → Int → Int} {W : qWt} {R : zR} {F : zF} {s : Int → Int}
theorem c24_showLaw {w : Int} (hd : 1 ≤ d) (hR : cR R I A) (hB : bR R s (A 25) (A 26) (A 27) (A 28) (A 29) (I 24 7) (I 24 8)) (hs : sP R s) (h0 : 0 ≤ w) (h1 : w < rW R) : ∃ f, (∀ j : Int, 0 ≤ j → j < 9 → f j = seeF (A 23 0) (rS R w) (rN R) (s 46) (s (10 + w)) (s (20 + w)) (enc (s w) (s (30 + w))) (s 45) (s (40 + rO R w)) j) ∧ q_call q_MT d 33 [.ref 24, .int (zI w)] (zM I A W) = some (.inl none, zM I (ua A 23 f) W) := by
  obtain ⟨d, rfl⟩ : ∃ e, d = e + 1 := ⟨d - 1, by omega⟩
  have hw := hR.1.2.1
  have hh := hR.1.1
  have ho := hR.1.o h0 h1
  have e1 := hR.2.2.2.2.2.2.1 w h0 h1
  have e2 := hR.2.2.2.2.2.2.2.1 w h0 h1
  have e3 := hR.2.2.2.2.2.1
  have b1 := hB.1 w h0 h1
  have b2 := hB.2.1 w h0 h1
  have b3 := hB.2.2.1 w h0 h1
  have b4 := hB.2.2.2.1 (rO R w) ho.1 ho.2
  have b5 := hB.2.2.2.2.2.1
  have b6 := hB.2.2.2.2.2.2
  rw [cl_X1_showLaw]
  simp (implicitDefEqProofs := false) (disch := omega) only [↓rI_s, ↓rV_s, ↓rI_e, ↓rV_e, zc_eq, zc_ne, zc_lt, zc_ge, zc_gt, zc_le, zlt_t, zlt_f, zle_t, zle_f, zeq_t, zeq_f, lz, zadd, zsub, zmul, zneg, zb_e0, zb_e1, boo0, boo1, ua_s, ua_n, ua_ua, up_s, u2_s, u2_f, u2_c, u2_u2, Int.natCast_add, Int.zero_add, Int.add_zero, ↓reduceIte, ne_eq, not_true_eq_false, not_false_eq_true, Int.natCast_one, ↓k_X1_showLaw_0, ↓k_X1_showLaw_93, ↓zg_24_1, ↓zg_19_3, zl_23, zs_23, ↓zn_23, ↓zg_24_0, ↓zg_5_7, zl_8, zs_8, ↓zn_8, ↓zg_5_4, ↓zg_24_8, ↓zg_24_3, zl_26, zs_26, ↓zn_26, ↓zg_24_4, zl_27, zs_27, ↓zn_27, ↓zg_24_2, zl_25, zs_25, ↓zn_25, ↓zg_24_7, ↓zg_24_5, zl_28, zs_28, ↓zn_28, ↓zg_5_6, zl_7, zs_7, ↓zn_7, e1, e2, e3, b1, b2, b3, b4, b5, b6]
  refine ⟨_, ?_, rfl⟩
  exact nine rfl rfl rfl rfl rfl rfl rfl rfl rfl
theorem c24_flight {w p : Int} (hd : 3 ≤ d) (hR : cR R I A) (hB : bR R s (A 25) (A 26) (A 27) (A 28) (A 29) (I 24 7) (I 24 8)) (hs : sP R s) (hL : cL F I A) (h0 : 0 ≤ w) (h1 : w < rW R) : ∃ A', fr [22, 23] A A' ∧ q_call q_MT d 34 [.ref 24, .int (zI w), .int (zI p)] (zM I A W) = some (.inl (some (.int (zI (flA R F s w p)))), zM I A' W) := by
  obtain ⟨d, rfl⟩ : ∃ e, d = e + 1 := ⟨d - 1, by omega⟩
  rw [cl_X1_flight]
  by_cases h : 0 ≤ s w
  · obtain ⟨f, hf, e⟩ := c24_showLaw (W := W) (show 1 ≤ d by omega) hR hB hs h0 h1
    obtain ⟨A', hf2, h23, e2⟩ := c_flightBy (p := p) (W := W) (show 2 ≤ d by omega) (hL.fr (A' := ua A 23 f) (L := [23]) (fr.refl.a rfl) rfl)
    refine ⟨A', (fr.refl.a rfl).tr hf2, ?_⟩
    simp (implicitDefEqProofs := false) (disch := omega) only [↓rI_s, ↓rV_s, ↓rI_e, ↓rV_e, zc_eq, zc_ne, zc_lt, zc_ge, zc_gt, zc_le, zlt_t, zlt_f, zle_t, zle_f, zeq_t, zeq_f, lz, zadd, zsub, zmul, zneg, zb_e0, zb_e1, boo0, boo1, ua_s, ua_n, ua_ua, up_s, u2_s, u2_f, u2_c, u2_u2, Int.natCast_add, Int.zero_add, Int.add_zero, ↓reduceIte, ne_eq, not_true_eq_false, not_false_eq_true, Int.natCast_one, ↓k_X1_flight_0, ↓mc_24, ↓mc_30, ↓zg_24_1, ↓mc_19]
    rw [c24_isOnFelt (by omega) hR hB hs h0 h1, zb_t h]
    simp (implicitDefEqProofs := false) (disch := omega) only [↓rI_s, ↓rV_s, ↓rI_e, ↓rV_e, zc_eq, zc_ne, zc_lt, zc_ge, zc_gt, zc_le, zlt_t, zlt_f, zle_t, zle_f, zeq_t, zeq_f, lz, zadd, zsub, zmul, zneg, zb_e0, zb_e1, boo0, boo1, ua_s, ua_n, ua_ua, up_s, u2_s, u2_f, u2_c, u2_u2, Int.natCast_add, Int.zero_add, Int.add_zero, ↓reduceIte, ne_eq, not_true_eq_false, not_false_eq_true, Int.natCast_one, ↓k_X1_flight_0, ↓mc_24, ↓mc_30, ↓zg_24_1, ↓mc_19, e, e2]
    rw [flA, if_neg (by omega), fl]
    have he := (enc_f hs h0 h1).1 h
    rw [he] at hf
    rw [hL.w.2 _ (seeF p (rS R w) (rN R) (s 46) (s (10 + w)) (s (20 + w)) (s w) (s 45) (s (40 + rO R w)))]
    intro j j0 j1
    by_cases hj : j = 0
    · subst hj; rfl
    · rw [up_n hj, hf j j0 j1]
      unfold seeF
      rw [if_neg hj, if_neg hj]
  · refine ⟨A, fr.refl, ?_⟩
    simp (implicitDefEqProofs := false) (disch := omega) only [↓rI_s, ↓rV_s, ↓rI_e, ↓rV_e, zc_eq, zc_ne, zc_lt, zc_ge, zc_gt, zc_le, zlt_t, zlt_f, zle_t, zle_f, zeq_t, zeq_f, lz, zadd, zsub, zmul, zneg, zb_e0, zb_e1, boo0, boo1, ua_s, ua_n, ua_ua, up_s, u2_s, u2_f, u2_c, u2_u2, Int.natCast_add, Int.zero_add, Int.add_zero, ↓reduceIte, ne_eq, not_true_eq_false, not_false_eq_true, Int.natCast_one, ↓k_X1_flight_0, ↓mc_24, ↓mc_30, ↓zg_24_1, ↓mc_19]
    rw [c24_isOnFelt (by omega) hR hB hs h0 h1, zb_f h]
    simp (implicitDefEqProofs := false) (disch := omega) only [↓rI_s, ↓rV_s, ↓rI_e, ↓rV_e, zc_eq, zc_ne, zc_lt, zc_ge, zc_gt, zc_le, zlt_t, zlt_f, zle_t, zle_f, zeq_t, zeq_f, lz, zadd, zsub, zmul, zneg, zb_e0, zb_e1, boo0, boo1, ua_s, ua_n, ua_ua, up_s, u2_s, u2_f, u2_c, u2_u2, Int.natCast_add, Int.zero_add, Int.add_zero, ↓reduceIte, ne_eq, not_true_eq_false, not_false_eq_true, Int.natCast_one, ↓k_X1_flight_0, ↓mc_24, ↓mc_30, ↓zg_24_1, ↓mc_19]
    rw [flA, if_pos (by omega)]
theorem c24_landing {w p h : Int} (hd : 4 ≤ d) (hR : cR R I A) (hB : bR R s (A 25) (A 26) (A 27) (A 28) (A 29) (I 24 7) (I 24 8)) (hs : sP R s) (hL : cL F I A) (h0 : 0 ≤ w) (h1 : w < rW R) (hf0 : 0 ≤ s w) (hh : h = 0 ∨ h = 1) : ∃ A', fr [22, 23] A A' ∧ q_call q_MT d 35 [.ref 24, .int (zI w), .int (zI p), .int (zI h)] (zM I A W) = some (.inl (some (.int (zI (dn R F s w p h)))), zM I A' W) := by
  obtain ⟨d, rfl⟩ : ∃ e, d = e + 1 := ⟨d - 1, by omega⟩
  have hw := hR.1.2.1
  have hp := hs w h0 h1
  have hF := flA_b (R := R) hL.w s w p
  have hf1 := hR.1.2.2.2.1
  have hf2 := hR.1.2.2.2.2.1
  have hf3 := hR.2.2.2.2.1
  have b1 := hB.1 w h0 h1
  rw [(enc_f hs h0 h1).1 hf0] at b1
  obtain ⟨A', hf, e⟩ := c24_flight (p := p) (W := W) (show 3 ≤ d by omega) hR hB hs hL h0 h1
  refine ⟨A', hf, ?_⟩
  rw [← hf 25 rfl] at b1
  rw [cl_X1_landing]
  unfold dn
  rcases hh with rfl | rfl
  · simp (implicitDefEqProofs := false) (disch := omega) only [↓rI_s, ↓rV_s, ↓rI_e, ↓rV_e, zc_eq, zc_ne, zc_lt, zc_ge, zc_gt, zc_le, zlt_t, zlt_f, zle_t, zle_f, zeq_t, zeq_f, lz, zadd, zsub, zmul, zneg, zb_e0, zb_e1, boo0, boo1, ua_s, ua_n, ua_ua, up_s, u2_s, u2_f, u2_c, u2_u2, Int.natCast_add, Int.zero_add, Int.add_zero, ↓reduceIte, ne_eq, not_true_eq_false, not_false_eq_true, Int.natCast_one, ↓k_X1_landing_0, ↓k_X1_landing_33, ↓k_X1_landing_57, ↓k_X1_landing_59, ↓mc_24, ↓mc_30, ↓zg_24_2, zl_25, zs_25, ↓zn_25, ↓zg_24_0, ↓zg_5_3, e, hf3, b1]
    by_cases q1 : s w + flA R F s w p < 0
    · simp (implicitDefEqProofs := false) (disch := omega) only [↓rI_s, ↓rV_s, ↓rI_e, ↓rV_e, zc_eq, zc_ne, zc_lt, zc_ge, zc_gt, zc_le, zlt_t, zlt_f, zle_t, zle_f, zeq_t, zeq_f, lz, zadd, zsub, zmul, zneg, zb_e0, zb_e1, boo0, boo1, ua_s, ua_n, ua_ua, up_s, u2_s, u2_f, u2_c, u2_u2, Int.natCast_add, Int.zero_add, Int.add_zero, ↓reduceIte, ne_eq, not_true_eq_false, not_false_eq_true, Int.natCast_one, ↓k_X1_landing_0, ↓k_X1_landing_33, ↓k_X1_landing_57, ↓k_X1_landing_59, ↓mc_24, ↓mc_30, ↓zg_24_2, zl_25, zs_25, ↓zn_25, ↓zg_24_0, ↓zg_5_3, hf3, q1, true_or]
    · by_cases q2 : rF R ≤ s w + flA R F s w p
      · simp (implicitDefEqProofs := false) (disch := omega) only [↓rI_s, ↓rV_s, ↓rI_e, ↓rV_e, zc_eq, zc_ne, zc_lt, zc_ge, zc_gt, zc_le, zlt_t, zlt_f, zle_t, zle_f, zeq_t, zeq_f, lz, zadd, zsub, zmul, zneg, zb_e0, zb_e1, boo0, boo1, ua_s, ua_n, ua_ua, up_s, u2_s, u2_f, u2_c, u2_u2, Int.natCast_add, Int.zero_add, Int.add_zero, ↓reduceIte, ne_eq, not_true_eq_false, not_false_eq_true, Int.natCast_one, ↓k_X1_landing_0, ↓k_X1_landing_33, ↓k_X1_landing_57, ↓k_X1_landing_59, ↓mc_24, ↓mc_30, ↓zg_24_2, zl_25, zs_25, ↓zn_25, ↓zg_24_0, ↓zg_5_3, hf3, q2, or_true]
      · simp (implicitDefEqProofs := false) (disch := omega) only [↓rI_s, ↓rV_s, ↓rI_e, ↓rV_e, zc_eq, zc_ne, zc_lt, zc_ge, zc_gt, zc_le, zlt_t, zlt_f, zle_t, zle_f, zeq_t, zeq_f, lz, zadd, zsub, zmul, zneg, zb_e0, zb_e1, boo0, boo1, ua_s, ua_n, ua_ua, up_s, u2_s, u2_f, u2_c, u2_u2, Int.natCast_add, Int.zero_add, Int.add_zero, ↓reduceIte, ne_eq, not_true_eq_false, not_false_eq_true, Int.natCast_one, ↓k_X1_landing_0, ↓k_X1_landing_33, ↓k_X1_landing_57, ↓k_X1_landing_59, ↓mc_24, ↓mc_30, ↓zg_24_2, zl_25, zs_25, ↓zn_25, ↓zg_24_0, ↓zg_5_3, hf3, q1, q2, or_false]
  · simp (implicitDefEqProofs := false) (disch := omega) only [↓rI_s, ↓rV_s, ↓rI_e, ↓rV_e, zc_eq, zc_ne, zc_lt, zc_ge, zc_gt, zc_le, zlt_t, zlt_f, zle_t, zle_f, zeq_t, zeq_f, lz, zadd, zsub, zmul, zneg, zb_e0, zb_e1, boo0, boo1, ua_s, ua_n, ua_ua, up_s, u2_s, u2_f, u2_c, u2_u2, Int.natCast_add, Int.zero_add, Int.add_zero, ↓reduceIte, ne_eq, not_true_eq_false, not_false_eq_true, Int.natCast_one, ↓k_X1_landing_0, ↓k_X1_landing_33, ↓k_X1_landing_57, ↓k_X1_landing_59, ↓mc_24, ↓mc_30, ↓zg_24_2, zl_25, zs_25, ↓zn_25, ↓zg_24_0, ↓zg_5_3, e, hf3, b1, show ¬ (1 : Int) = 0 by decide]
    by_cases q1 : s w + -flA R F s w p < 0
    · simp (implicitDefEqProofs := false) (disch := omega) only [↓rI_s, ↓rV_s, ↓rI_e, ↓rV_e, zc_eq, zc_ne, zc_lt, zc_ge, zc_gt, zc_le, zlt_t, zlt_f, zle_t, zle_f, zeq_t, zeq_f, lz, zadd, zsub, zmul, zneg, zb_e0, zb_e1, boo0, boo1, ua_s, ua_n, ua_ua, up_s, u2_s, u2_f, u2_c, u2_u2, Int.natCast_add, Int.zero_add, Int.add_zero, ↓reduceIte, ne_eq, not_true_eq_false, not_false_eq_true, Int.natCast_one, ↓k_X1_landing_0, ↓k_X1_landing_33, ↓k_X1_landing_57, ↓k_X1_landing_59, ↓mc_24, ↓mc_30, ↓zg_24_2, zl_25, zs_25, ↓zn_25, ↓zg_24_0, ↓zg_5_3, hf3, q1, true_or]
    · by_cases q2 : rF R ≤ s w + -flA R F s w p
      · simp (implicitDefEqProofs := false) (disch := omega) only [↓rI_s, ↓rV_s, ↓rI_e, ↓rV_e, zc_eq, zc_ne, zc_lt, zc_ge, zc_gt, zc_le, zlt_t, zlt_f, zle_t, zle_f, zeq_t, zeq_f, lz, zadd, zsub, zmul, zneg, zb_e0, zb_e1, boo0, boo1, ua_s, ua_n, ua_ua, up_s, u2_s, u2_f, u2_c, u2_u2, Int.natCast_add, Int.zero_add, Int.add_zero, ↓reduceIte, ne_eq, not_true_eq_false, not_false_eq_true, Int.natCast_one, ↓k_X1_landing_0, ↓k_X1_landing_33, ↓k_X1_landing_57, ↓k_X1_landing_59, ↓mc_24, ↓mc_30, ↓zg_24_2, zl_25, zs_25, ↓zn_25, ↓zg_24_0, ↓zg_5_3, hf3, q2, or_true]
      · simp (implicitDefEqProofs := false) (disch := omega) only [↓rI_s, ↓rV_s, ↓rI_e, ↓rV_e, zc_eq, zc_ne, zc_lt, zc_ge, zc_gt, zc_le, zlt_t, zlt_f, zle_t, zle_f, zeq_t, zeq_f, lz, zadd, zsub, zmul, zneg, zb_e0, zb_e1, boo0, boo1, ua_s, ua_n, ua_ua, up_s, u2_s, u2_f, u2_c, u2_u2, Int.natCast_add, Int.zero_add, Int.add_zero, ↓reduceIte, ne_eq, not_true_eq_false, not_false_eq_true, Int.natCast_one, ↓k_X1_landing_0, ↓k_X1_landing_33, ↓k_X1_landing_57, ↓k_X1_landing_59, ↓mc_24, ↓mc_30, ↓zg_24_2, zl_25, zs_25, ↓zn_25, ↓zg_24_0, ↓zg_5_3, hf3, q1, q2, or_false]
        rw [Int.sub_eq_add_neg]
theorem c30_showLaw {w : Int} (hd : 1 ≤ d) (hR : cR R I A) (hB : bR R s (A 31) (A 32) (A 33) (A 34) (A 35) (I 30 7) (I 30 8)) (hs : sP R s) (h0 : 0 ≤ w) (h1 : w < rW R) : ∃ f, (∀ j : Int, 0 ≤ j → j < 9 → f j = seeF (A 23 0) (rS R w) (rN R) (s 46) (s (10 + w)) (s (20 + w)) (enc (s w) (s (30 + w))) (s 45) (s (40 + rO R w)) j) ∧ q_call q_MT d 33 [.ref 30, .int (zI w)] (zM I A W) = some (.inl none, zM I (ua A 23 f) W) := by
  obtain ⟨d, rfl⟩ : ∃ e, d = e + 1 := ⟨d - 1, by omega⟩
  have hw := hR.1.2.1
  have hh := hR.1.1
  have ho := hR.1.o h0 h1
  have e1 := hR.2.2.2.2.2.2.1 w h0 h1
  have e2 := hR.2.2.2.2.2.2.2.1 w h0 h1
  have e3 := hR.2.2.2.2.2.1
  have b1 := hB.1 w h0 h1
  have b2 := hB.2.1 w h0 h1
  have b3 := hB.2.2.1 w h0 h1
  have b4 := hB.2.2.2.1 (rO R w) ho.1 ho.2
  have b5 := hB.2.2.2.2.2.1
  have b6 := hB.2.2.2.2.2.2
  rw [cl_X1_showLaw]
  simp (implicitDefEqProofs := false) (disch := omega) only [↓rI_s, ↓rV_s, ↓rI_e, ↓rV_e, zc_eq, zc_ne, zc_lt, zc_ge, zc_gt, zc_le, zlt_t, zlt_f, zle_t, zle_f, zeq_t, zeq_f, lz, zadd, zsub, zmul, zneg, zb_e0, zb_e1, boo0, boo1, ua_s, ua_n, ua_ua, up_s, u2_s, u2_f, u2_c, u2_u2, Int.natCast_add, Int.zero_add, Int.add_zero, ↓reduceIte, ne_eq, not_true_eq_false, not_false_eq_true, Int.natCast_one, ↓k_X1_showLaw_0, ↓k_X1_showLaw_93, ↓zg_30_1, ↓zg_19_3, zl_23, zs_23, ↓zn_23, ↓zg_30_0, ↓zg_5_7, zl_8, zs_8, ↓zn_8, ↓zg_5_4, ↓zg_30_8, ↓zg_30_3, zl_32, zs_32, ↓zn_32, ↓zg_30_4, zl_33, zs_33, ↓zn_33, ↓zg_30_2, zl_31, zs_31, ↓zn_31, ↓zg_30_7, ↓zg_30_5, zl_34, zs_34, ↓zn_34, ↓zg_5_6, zl_7, zs_7, ↓zn_7, e1, e2, e3, b1, b2, b3, b4, b5, b6]
  refine ⟨_, ?_, rfl⟩
  exact nine rfl rfl rfl rfl rfl rfl rfl rfl rfl
theorem c30_flight {w p : Int} (hd : 3 ≤ d) (hR : cR R I A) (hB : bR R s (A 31) (A 32) (A 33) (A 34) (A 35) (I 30 7) (I 30 8)) (hs : sP R s) (hL : cL F I A) (h0 : 0 ≤ w) (h1 : w < rW R) : ∃ A', fr [22, 23] A A' ∧ q_call q_MT d 34 [.ref 30, .int (zI w), .int (zI p)] (zM I A W) = some (.inl (some (.int (zI (flA R F s w p)))), zM I A' W) := by
  obtain ⟨d, rfl⟩ : ∃ e, d = e + 1 := ⟨d - 1, by omega⟩
  rw [cl_X1_flight]
  by_cases h : 0 ≤ s w
  · obtain ⟨f, hf, e⟩ := c30_showLaw (W := W) (show 1 ≤ d by omega) hR hB hs h0 h1
    obtain ⟨A', hf2, h23, e2⟩ := c_flightBy (p := p) (W := W) (show 2 ≤ d by omega) (hL.fr (A' := ua A 23 f) (L := [23]) (fr.refl.a rfl) rfl)
    refine ⟨A', (fr.refl.a rfl).tr hf2, ?_⟩
    simp (implicitDefEqProofs := false) (disch := omega) only [↓rI_s, ↓rV_s, ↓rI_e, ↓rV_e, zc_eq, zc_ne, zc_lt, zc_ge, zc_gt, zc_le, zlt_t, zlt_f, zle_t, zle_f, zeq_t, zeq_f, lz, zadd, zsub, zmul, zneg, zb_e0, zb_e1, boo0, boo1, ua_s, ua_n, ua_ua, up_s, u2_s, u2_f, u2_c, u2_u2, Int.natCast_add, Int.zero_add, Int.add_zero, ↓reduceIte, ne_eq, not_true_eq_false, not_false_eq_true, Int.natCast_one, ↓k_X1_flight_0, ↓mc_24, ↓mc_30, ↓zg_30_1, ↓mc_19]
    rw [c30_isOnFelt (by omega) hR hB hs h0 h1, zb_t h]
    simp (implicitDefEqProofs := false) (disch := omega) only [↓rI_s, ↓rV_s, ↓rI_e, ↓rV_e, zc_eq, zc_ne, zc_lt, zc_ge, zc_gt, zc_le, zlt_t, zlt_f, zle_t, zle_f, zeq_t, zeq_f, lz, zadd, zsub, zmul, zneg, zb_e0, zb_e1, boo0, boo1, ua_s, ua_n, ua_ua, up_s, u2_s, u2_f, u2_c, u2_u2, Int.natCast_add, Int.zero_add, Int.add_zero, ↓reduceIte, ne_eq, not_true_eq_false, not_false_eq_true, Int.natCast_one, ↓k_X1_flight_0, ↓mc_24, ↓mc_30, ↓zg_30_1, ↓mc_19, e, e2]
    rw [flA, if_neg (by omega), fl]
    have he := (enc_f hs h0 h1).1 h
    rw [he] at hf
    rw [hL.w.2 _ (seeF p (rS R w) (rN R) (s 46) (s (10 + w)) (s (20 + w)) (s w) (s 45) (s (40 + rO R w)))]
    intro j j0 j1
    by_cases hj : j = 0
    · subst hj; rfl
    · rw [up_n hj, hf j j0 j1]
      unfold seeF
      rw [if_neg hj, if_neg hj]
  · refine ⟨A, fr.refl, ?_⟩
    simp (implicitDefEqProofs := false) (disch := omega) only [↓rI_s, ↓rV_s, ↓rI_e, ↓rV_e, zc_eq, zc_ne, zc_lt, zc_ge, zc_gt, zc_le, zlt_t, zlt_f, zle_t, zle_f, zeq_t, zeq_f, lz, zadd, zsub, zmul, zneg, zb_e0, zb_e1, boo0, boo1, ua_s, ua_n, ua_ua, up_s, u2_s, u2_f, u2_c, u2_u2, Int.natCast_add, Int.zero_add, Int.add_zero, ↓reduceIte, ne_eq, not_true_eq_false, not_false_eq_true, Int.natCast_one, ↓k_X1_flight_0, ↓mc_24, ↓mc_30, ↓zg_30_1, ↓mc_19]
    rw [c30_isOnFelt (by omega) hR hB hs h0 h1, zb_f h]
    simp (implicitDefEqProofs := false) (disch := omega) only [↓rI_s, ↓rV_s, ↓rI_e, ↓rV_e, zc_eq, zc_ne, zc_lt, zc_ge, zc_gt, zc_le, zlt_t, zlt_f, zle_t, zle_f, zeq_t, zeq_f, lz, zadd, zsub, zmul, zneg, zb_e0, zb_e1, boo0, boo1, ua_s, ua_n, ua_ua, up_s, u2_s, u2_f, u2_c, u2_u2, Int.natCast_add, Int.zero_add, Int.add_zero, ↓reduceIte, ne_eq, not_true_eq_false, not_false_eq_true, Int.natCast_one, ↓k_X1_flight_0, ↓mc_24, ↓mc_30, ↓zg_30_1, ↓mc_19]
    rw [flA, if_pos (by omega)]
theorem c30_landing {w p h : Int} (hd : 4 ≤ d) (hR : cR R I A) (hB : bR R s (A 31) (A 32) (A 33) (A 34) (A 35) (I 30 7) (I 30 8)) (hs : sP R s) (hL : cL F I A) (h0 : 0 ≤ w) (h1 : w < rW R) (hf0 : 0 ≤ s w) (hh : h = 0 ∨ h = 1) : ∃ A', fr [22, 23] A A' ∧ q_call q_MT d 35 [.ref 30, .int (zI w), .int (zI p), .int (zI h)] (zM I A W) = some (.inl (some (.int (zI (dn R F s w p h)))), zM I A' W) := by
  obtain ⟨d, rfl⟩ : ∃ e, d = e + 1 := ⟨d - 1, by omega⟩
  have hw := hR.1.2.1
  have hp := hs w h0 h1
  have hF := flA_b (R := R) hL.w s w p
  have hf1 := hR.1.2.2.2.1
  have hf2 := hR.1.2.2.2.2.1
  have hf3 := hR.2.2.2.2.1
  have b1 := hB.1 w h0 h1
  rw [(enc_f hs h0 h1).1 hf0] at b1
  obtain ⟨A', hf, e⟩ := c30_flight (p := p) (W := W) (show 3 ≤ d by omega) hR hB hs hL h0 h1
  refine ⟨A', hf, ?_⟩
  rw [← hf 31 rfl] at b1
  rw [cl_X1_landing]
  unfold dn
  rcases hh with rfl | rfl
  · simp (implicitDefEqProofs := false) (disch := omega) only [↓rI_s, ↓rV_s, ↓rI_e, ↓rV_e, zc_eq, zc_ne, zc_lt, zc_ge, zc_gt, zc_le, zlt_t, zlt_f, zle_t, zle_f, zeq_t, zeq_f, lz, zadd, zsub, zmul, zneg, zb_e0, zb_e1, boo0, boo1, ua_s, ua_n, ua_ua, up_s, u2_s, u2_f, u2_c, u2_u2, Int.natCast_add, Int.zero_add, Int.add_zero, ↓reduceIte, ne_eq, not_true_eq_false, not_false_eq_true, Int.natCast_one, ↓k_X1_landing_0, ↓k_X1_landing_33, ↓k_X1_landing_57, ↓k_X1_landing_59, ↓mc_24, ↓mc_30, ↓zg_30_2, zl_31, zs_31, ↓zn_31, ↓zg_30_0, ↓zg_5_3, e, hf3, b1]
    by_cases q1 : s w + flA R F s w p < 0
    · simp (implicitDefEqProofs := false) (disch := omega) only [↓rI_s, ↓rV_s, ↓rI_e, ↓rV_e, zc_eq, zc_ne, zc_lt, zc_ge, zc_gt, zc_le, zlt_t, zlt_f, zle_t, zle_f, zeq_t, zeq_f, lz, zadd, zsub, zmul, zneg, zb_e0, zb_e1, boo0, boo1, ua_s, ua_n, ua_ua, up_s, u2_s, u2_f, u2_c, u2_u2, Int.natCast_add, Int.zero_add, Int.add_zero, ↓reduceIte, ne_eq, not_true_eq_false, not_false_eq_true, Int.natCast_one, ↓k_X1_landing_0, ↓k_X1_landing_33, ↓k_X1_landing_57, ↓k_X1_landing_59, ↓mc_24, ↓mc_30, ↓zg_30_2, zl_31, zs_31, ↓zn_31, ↓zg_30_0, ↓zg_5_3, hf3, q1, true_or]
    · by_cases q2 : rF R ≤ s w + flA R F s w p
      · simp (implicitDefEqProofs := false) (disch := omega) only [↓rI_s, ↓rV_s, ↓rI_e, ↓rV_e, zc_eq, zc_ne, zc_lt, zc_ge, zc_gt, zc_le, zlt_t, zlt_f, zle_t, zle_f, zeq_t, zeq_f, lz, zadd, zsub, zmul, zneg, zb_e0, zb_e1, boo0, boo1, ua_s, ua_n, ua_ua, up_s, u2_s, u2_f, u2_c, u2_u2, Int.natCast_add, Int.zero_add, Int.add_zero, ↓reduceIte, ne_eq, not_true_eq_false, not_false_eq_true, Int.natCast_one, ↓k_X1_landing_0, ↓k_X1_landing_33, ↓k_X1_landing_57, ↓k_X1_landing_59, ↓mc_24, ↓mc_30, ↓zg_30_2, zl_31, zs_31, ↓zn_31, ↓zg_30_0, ↓zg_5_3, hf3, q2, or_true]
      · simp (implicitDefEqProofs := false) (disch := omega) only [↓rI_s, ↓rV_s, ↓rI_e, ↓rV_e, zc_eq, zc_ne, zc_lt, zc_ge, zc_gt, zc_le, zlt_t, zlt_f, zle_t, zle_f, zeq_t, zeq_f, lz, zadd, zsub, zmul, zneg, zb_e0, zb_e1, boo0, boo1, ua_s, ua_n, ua_ua, up_s, u2_s, u2_f, u2_c, u2_u2, Int.natCast_add, Int.zero_add, Int.add_zero, ↓reduceIte, ne_eq, not_true_eq_false, not_false_eq_true, Int.natCast_one, ↓k_X1_landing_0, ↓k_X1_landing_33, ↓k_X1_landing_57, ↓k_X1_landing_59, ↓mc_24, ↓mc_30, ↓zg_30_2, zl_31, zs_31, ↓zn_31, ↓zg_30_0, ↓zg_5_3, hf3, q1, q2, or_false]
  · simp (implicitDefEqProofs := false) (disch := omega) only [↓rI_s, ↓rV_s, ↓rI_e, ↓rV_e, zc_eq, zc_ne, zc_lt, zc_ge, zc_gt, zc_le, zlt_t, zlt_f, zle_t, zle_f, zeq_t, zeq_f, lz, zadd, zsub, zmul, zneg, zb_e0, zb_e1, boo0, boo1, ua_s, ua_n, ua_ua, up_s, u2_s, u2_f, u2_c, u2_u2, Int.natCast_add, Int.zero_add, Int.add_zero, ↓reduceIte, ne_eq, not_true_eq_false, not_false_eq_true, Int.natCast_one, ↓k_X1_landing_0, ↓k_X1_landing_33, ↓k_X1_landing_57, ↓k_X1_landing_59, ↓mc_24, ↓mc_30, ↓zg_30_2, zl_31, zs_31, ↓zn_31, ↓zg_30_0, ↓zg_5_3, e, hf3, b1, show ¬ (1 : Int) = 0 by decide]
    by_cases q1 : s w + -flA R F s w p < 0
    · simp (implicitDefEqProofs := false) (disch := omega) only [↓rI_s, ↓rV_s, ↓rI_e, ↓rV_e, zc_eq, zc_ne, zc_lt, zc_ge, zc_gt, zc_le, zlt_t, zlt_f, zle_t, zle_f, zeq_t, zeq_f, lz, zadd, zsub, zmul, zneg, zb_e0, zb_e1, boo0, boo1, ua_s, ua_n, ua_ua, up_s, u2_s, u2_f, u2_c, u2_u2, Int.natCast_add, Int.zero_add, Int.add_zero, ↓reduceIte, ne_eq, not_true_eq_false, not_false_eq_true, Int.natCast_one, ↓k_X1_landing_0, ↓k_X1_landing_33, ↓k_X1_landing_57, ↓k_X1_landing_59, ↓mc_24, ↓mc_30, ↓zg_30_2, zl_31, zs_31, ↓zn_31, ↓zg_30_0, ↓zg_5_3, hf3, q1, true_or]
    · by_cases q2 : rF R ≤ s w + -flA R F s w p
      · simp (implicitDefEqProofs := false) (disch := omega) only [↓rI_s, ↓rV_s, ↓rI_e, ↓rV_e, zc_eq, zc_ne, zc_lt, zc_ge, zc_gt, zc_le, zlt_t, zlt_f, zle_t, zle_f, zeq_t, zeq_f, lz, zadd, zsub, zmul, zneg, zb_e0, zb_e1, boo0, boo1, ua_s, ua_n, ua_ua, up_s, u2_s, u2_f, u2_c, u2_u2, Int.natCast_add, Int.zero_add, Int.add_zero, ↓reduceIte, ne_eq, not_true_eq_false, not_false_eq_true, Int.natCast_one, ↓k_X1_landing_0, ↓k_X1_landing_33, ↓k_X1_landing_57, ↓k_X1_landing_59, ↓mc_24, ↓mc_30, ↓zg_30_2, zl_31, zs_31, ↓zn_31, ↓zg_30_0, ↓zg_5_3, hf3, q2, or_true]
      · simp (implicitDefEqProofs := false) (disch := omega) only [↓rI_s, ↓rV_s, ↓rI_e, ↓rV_e, zc_eq, zc_ne, zc_lt, zc_ge, zc_gt, zc_le, zlt_t, zlt_f, zle_t, zle_f, zeq_t, zeq_f, lz, zadd, zsub, zmul, zneg, zb_e0, zb_e1, boo0, boo1, ua_s, ua_n, ua_ua, up_s, u2_s, u2_f, u2_c, u2_u2, Int.natCast_add, Int.zero_add, Int.add_zero, ↓reduceIte, ne_eq, not_true_eq_false, not_false_eq_true, Int.natCast_one, ↓k_X1_landing_0, ↓k_X1_landing_33, ↓k_X1_landing_57, ↓k_X1_landing_59, ↓mc_24, ↓mc_30, ↓zg_30_2, zl_31, zs_31, ↓zn_31, ↓zg_30_0, ↓zg_5_3, hf3, q1, q2, or_false]
        rw [Int.sub_eq_add_neg]
end CF
