--DEPS 78.season
def e47 (s t : Int → Int) : Prop := ∀ i : Int, 0 ≤ i → i < 47 → s i = t i
section EQ
variable {R : zR} {F : zF} {s t : Int → Int}
theorem e47.a (h : e47 s t) : ∀ j : Int, 0 ≤ j → j < 20 → s j = t j := fun j j0 j1 => h j j0 (by omega)
theorem e47.u (h : e47 s t) {k v v' : Int} (hv : v = v') : e47 (up s k v) (up t k v') := fun i i0 i1 => by
  subst hv
  unfold up
  split
  · rfl
  · exact h i i0 i1
theorem e47.l (h : e47 s t) (h10 : rW R ≤ 10) {w x : Int} (h0 : 0 ≤ w) (h1 : w < rW R) : e47 (lnd R s w x) (lnd R t w x) := fun i i0 i1 => lnd_cg h10 h0 h1 h.a (h i i0 i1)
theorem e47.f (h : e47 s t) (hR : wR R) {w p q : Int} (h0 : 0 ≤ w) (h1 : w < rW R) : e47 (flk R F s w p q) (flk R F t w p q) ∧ (canF R s w ↔ canF R t w) := by
  have h10 := hR.2.1
  have h5 := hR.1
  have ho := hR.o h0 h1
  have hc : canF R s w ↔ canF R t w := by
    unfold canF
    rw [free_cg h10 h.a h0 h1, h (40 + rO R w) (by omega) (by omega)]
  refine ⟨?_, hc⟩
  have hf1 : e47 (flk1 R s w) (flk1 R t w) := by
    unfold flk1
    exact (h.u (by rw [h (40 + rO R w) (by omega) (by omega)])).u (by rw [h (20 + w) (by omega) (by omega)])
  have hdn : dn R F s w p q = dn R F t w p q := dn_cg (h _ h0 (by omega)) (h _ (by omega) (by omega)) (h _ (by omega) (by omega)) (h _ (by omega) (by omega)) (h _ (by omega) (by omega)) (h _ (by omega) (by omega))
  unfold flk
  by_cases c : canF R s w
  · rw [if_pos c, if_pos (hc.mp c)]
    unfold flkX
    rw [hdn, h w h0 (by omega)]
    split
    · exact hf1
    · split
      · exact hf1.l h10 h0 h1
      · unfold ern
        have hl := hf1.l (x := dn R F t w p q) h10 h0 h1
        refine hl.u ?_
        rw [hl (40 + rO R w) (by omega) (by omega)]
  · rw [if_neg c, if_neg (fun q => c (hc.mpr q))]; exact h
theorem e47.sn (h : e47 s t) (hR : wR R) : ∀ n : Nat, n ≤ rW R → e47 (shkN R s n) (shkN R t n)
  | 0, _ => h
  | n + 1, hn => by
    have h10 := hR.2.1
    have ih := e47.sn h hR n (by omega)
    have hc := free_cg h10 h.a (w := n) (by omega) (by omega)
    show e47 (if free R s n then _ else _) (if free R t n then _ else _)
    by_cases c : free R s n
    · rw [if_pos c, if_pos (hc.mp c), ih n (by omega) (by omega)]
      exact ih.l h10 (by omega) (by omega)
    · rw [if_neg c, if_neg (fun q => c (hc.mpr q))]; exact ih
theorem e47.p (h : e47 s t) (hR : wR R) (hV : sV R s) {w : Int} (h0 : 0 ≤ w) (h1 : w < rW R) : e47 (pss R s w) (pss R t w) := by
  have h10 := hR.2.1
  have h5 := hR.1
  have ho := hR.o h0 h1
  have e1 : over R s w = over R t w := over_cg (fun v v0 v1 => h v v0 (by omega)) h0 h1 (h _ (by omega) (by omega))
  have e2 := h w h0 (by omega)
  have e3 := h (40 + rO R w) (by omega) (by omega)
  have e4 : many R s (s w) = many R t (t w) := by rw [e2]; exact many_cg (fun v v0 v1 => h v v0 (by omega)) _
  have e5 : who R s (s w) (many R s (s w) - 1) = who R t (t w) (many R t (t w) - 1) := by rw [e4, e2]; exact who_cg (fun v v0 v1 => h v v0 (by omega)) (fun v v0 v1 => h _ (by omega) (by omega)) _ _
  unfold pss
  by_cases c : s w < 0 ∨ over R s w = 0 ∨ s (40 + rO R w) = 0
  · rw [if_pos c, if_pos (by rw [← e1, ← e2, ← e3]; exact c)]; exact h
  · rw [if_neg c, if_neg (by rw [← e1, ← e2, ← e3]; exact c)]
    obtain ⟨k, hk, ek, -⟩ := who_at hV hR h0 h1 (by omega)
    have ot := hR.o (w := k) (by omega) (by omega)
    have hu := h.u (k := 40 + rO R w) (v := s (40 + rO R w) - 1) (v' := t (40 + rO R w) - 1) (by rw [e3])
    rw [← e5, ek]
    unfold ern
    refine hu.u ?_
    rw [hu (40 + rO R k) (by omega) (by omega)]
theorem e47.pn (h : e47 s t) (hR : wR R) (hV : sV R s) : ∀ n : Nat, n ≤ rW R → e47 (pssN R s n) (pssN R t n)
  | 0, _ => h
  | n + 1, hn => (e47.pn h hR hV n (by omega)).p hR (pss_i hV hR n (by omega)).1 (by omega) (by omega)
theorem e47.q (h : e47 s t) (hR : wR R) (hV : sV R s) : e47 (pas R s) (pas R t) := by
  have hp := h.pn hR hV (rW R) (Nat.le_refl _)
  unfold pas
  exact hp.u (by rw [hp 45 (by decide) (by decide)])
theorem ssN_e (h : e47 s t) (hR : wR R) (hF : wF F) (hV : sV R s) (hW : 0 < rW R) {q z : Int} : ∀ n : Nat, (ssN R F q (z, 0, s) n).1 = (ssN R F q (z, 0, t) n).1 ∧ (ssN R F q (z, 0, s) n).2.1 = (ssN R F q (z, 0, t) n).2.1 ∧ e47 (ssN R F q (z, 0, s) n).2.2 (ssN R F q (z, 0, t) n).2.2
  | 0 => ⟨rfl, rfl, h⟩
  | n + 1 => by
    obtain ⟨i1, i2, i3⟩ := ssN_e h hR hF hV hW (q := q) (z := z) n
    have vn := ssN_V (q := q) (st := (z, 0, s)) hR hF hW hV n
    show (ss1 R F q _ _).1 = (ss1 R F q _ _).1 ∧ (ss1 R F q _ _).2.1 = (ss1 R F q _ _).2.1 ∧ e47 (ss1 R F q _ _).2.2 (ss1 R F q _ _).2.2
    generalize ssN R F q (z, 0, s) n = a at i1 i2 i3 vn
    generalize ssN R F q (z, 0, t) n = b at i1 i2 i3
    obtain ⟨a1, a2, a3⟩ := a
    obtain ⟨b1, b2, b3⟩ := b
    dsimp only at i1 i2 i3 vn
    subst i1
    subst i2
    have bd := dv_b (z := nx a1) (n := rW R) (by omega)
    have hf := i3.f (F := F) (p := dv (nx (nx a1)) 9 + 1) (q := dv (nx (nx (nx a1))) 2) hR bd.1 bd.2
    have v1 := vn.fk (F := F) (p := dv (nx (nx a1)) 9 + 1) (h := dv (nx (nx (nx a1))) 2) hR hF bd.1 bd.2
    unfold ss1
    dsimp only
    refine ⟨rfl, ?_, ?_⟩
    · by_cases c : canF R a3 (dv (nx a1) (rW R))
      · rw [zb_t c, zb_t (hf.2.mp c)]
      · rw [zb_f c, zb_f (fun q => c (hf.2.mpr q))]
    · have hs : e47 (if dv (nx (nx (nx (nx a1)))) 16 < q then shk R (flk R F a3 (dv (nx a1) (rW R)) (dv (nx (nx a1)) 9 + 1) (dv (nx (nx (nx a1))) 2)) else flk R F a3 (dv (nx a1) (rW R)) (dv (nx (nx a1)) 9 + 1) (dv (nx (nx (nx a1))) 2)) (if dv (nx (nx (nx (nx a1)))) 16 < q then shk R (flk R F b3 (dv (nx a1) (rW R)) (dv (nx (nx a1)) 9 + 1) (dv (nx (nx (nx a1))) 2)) else flk R F b3 (dv (nx a1) (rW R)) (dv (nx (nx a1)) 9 + 1) (dv (nx (nx (nx a1))) 2)) := by
        split
        · exact hf.1.sn hR (rW R) (Nat.le_refl _)
        · exact hf.1
      have v2 : sV R (if dv (nx (nx (nx (nx a1)))) 16 < q then shk R (flk R F a3 (dv (nx a1) (rW R)) (dv (nx (nx a1)) 9 + 1) (dv (nx (nx (nx a1))) 2)) else flk R F a3 (dv (nx a1) (rW R)) (dv (nx (nx a1)) 9 + 1) (dv (nx (nx (nx a1))) 2)) := by
        split
        · exact v1.sh hR
        · exact v1
      split
      · exact hs.q hR v2
      · exact hs
theorem ssn_e (h : e47 s t) (hR : wR R) (hF : wF F) (hV : sV R s) {q z n : Int} : (ssn R F q z n s).2.1 = (ssn R F q z n t).2.1 ∧ e47 (ssn R F q z n s).2.2 (ssn R F q z n t).2.2 := by
  unfold ssn
  by_cases c : rW R = 0
  · rw [if_pos c, if_pos c]; exact ⟨rfl, h⟩
  · rw [if_neg c, if_neg c]; exact (ssN_e h hR hF hV (by omega) _).2
end EQ
def vSeason (R : zR) (F : zF) (s : Int → Int) (z q n k : Int) : Int := if k = 0 then many R (ssn R F q z n s).2.2 (-3) else if k = 1 then many R (ssn R F q z n s).2.2 (-2) else if k = 2 then (ssn R F q z n s).2.1 else gvn (fun h => (ssn R F q z n s).2.2 (40 + h)) 9999 (rH R)
def spn (R : zR) (F : zF) (s : Int → Int) (z q n : Int) : Nat → Int × Int × Int
  | 0 => (10, 0, 0)
  | j + 1 => (if many R (ssn R F q (z + j) n s).2.2 (-3) < (spn R F s z q n j).1 then many R (ssn R F q (z + j) n s).2.2 (-3) else (spn R F s z q n j).1, if (spn R F s z q n j).2.1 < many R (ssn R F q (z + j) n s).2.2 (-3) then many R (ssn R F q (z + j) n s).2.2 (-3) else (spn R F s z q n j).2.1, (spn R F s z q n j).2.2 + (if many R (ssn R F q (z + j) n s).2.2 (-2) = 0 then 1 else 0))
theorem spn_b {R : zR} {F : zF} {s : Int → Int} {z q n : Int} (hw : rW R ≤ 10) : ∀ j : Nat, 0 ≤ (spn R F s z q n j).1 ∧ (spn R F s z q n j).1 ≤ 10 ∧ 0 ≤ (spn R F s z q n j).2.1 ∧ (spn R F s z q n j).2.1 ≤ 10
  | 0 => by unfold spn; decide
  | j + 1 => by
    have := spn_b (F := F) (s := s) (z := z) (q := q) (n := n) hw j
    have m0 := many_lo R (ssn R F q (z + j) n s).2.2 (-3)
    have m1 := many_hi R (ssn R F q (z + j) n s).2.2 (-3)
    unfold spn
    dsimp only
    refine ⟨?_, ?_, ?_, ?_⟩ <;> split <;> omega
def vSpan (R : zR) (F : zF) (s : Int → Int) (z m q n k : Int) : Int := if k = 0 then (spn R F s z q n m.toNat).1 else if k = 1 then (spn R F s z q n m.toNat).2.1 else (spn R F s z q n m.toNat).2.2
section SP
variable {d : Nat} {I : Nat → Nat → Int} {A : Nat → Int → Int} {W : qWt} {R : zR} {F : zF} {s : Int → Int}
theorem C_season {z q n k : Int} (hd : 8 ≤ d) (hX : cX R F s I A) (h1 : wI q) (h2 : wI n) (h3 : wI k) : cOut I A W (q_call q_MT d 142 [.ref 2, .int (zI z), .int (zI q), .int (zI n), .int (zI k)] (zM I A W)) (if (0 ≤ q ∧ q ≤ 16) ∧ (1 ≤ n ∧ n ≤ 96) ∧ (0 ≤ k ∧ k ≤ 3) then 0 else 2) (vSeason R F s z q n k) := by
  obtain ⟨d, rfl⟩ : ∃ e, d = e + 1 := ⟨d - 1, by omega⟩
  have hR := hX.1
  have hw := hR.1.2.1
  rw [cl_X10_season, k_X10_season_0]
  simp only [lz]
  by_cases c1 : 0 ≤ q ∧ q ≤ 16
  · by_cases c2 : 1 ≤ n ∧ n ≤ 96
    · by_cases c3 : 0 ≤ k ∧ k ≤ 3
      · rw [if_pos ⟨c1, c2, c3⟩]
        obtain ⟨I1, A1, f1, g1, b1, e1⟩ := c_startTrial (W := W) (show 3 ≤ d by omega) hX
        obtain ⟨I2, A2, f2, g2, b2, y3, e2⟩ := c_runS (z := z) (q := q) (n := n) (W := W) (F := F) (show 6 ≤ d by omega) ((hR.fi f1 rfl).fr g1 rfl) ((hX.2.2.2.fi f1 rfl).fr g1 rfl) b1 hX.2.2.1.1 c1 c2
        have hR2 := (((hR.fi f1 rfl).fr g1 rfl).fi f2 rfl).fr g2 rfl
        have hV2 := ssn_V (q := q) (z := z) (n := n) hR.1 hX.2.2.2.w hX.2.2.1.1
        refine cOut.ok ((f1.wd rfl).tr (f2.wd rfl)) ((g1.wd rfl).tr (g2.wd rfl)) ?_
        simp (implicitDefEqProofs := false) (disch := omega) only [↓rI_s, ↓rV_s, ↓rI_e, ↓rV_e, zc_eq, zc_ne, zc_lt, zc_ge, zc_gt, zc_le, zlt_t, zlt_f, zle_t, zle_f, zeq_t, zeq_f, lz, zadd, zsub, zmul, zneg, zb_e0, zb_e1, boo0, boo1, ua_s, ua_n, ua_ua, up_s, u2_s, u2_f, u2_c, u2_u2, Int.natCast_add, Int.zero_add, Int.add_zero, ↓reduceIte, ne_eq, not_true_eq_false, not_false_eq_true, Int.natCast_one, ↓mc_2, s_needWink (show 2 ≤ d by omega) hR, s_needWink_f (show 2 ≤ d by omega) hR, s_needCup (show 2 ≤ d by omega) hR, s_needCup_f (show 2 ≤ d by omega) hR, s_needHouse (show 2 ≤ d by omega) hR, s_needHouse_f (show 2 ≤ d by omega) hR, s_needThere, s_needThere_f, s_needPress, s_needPress_f, s_needWhat, s_needWhat_f, s_needWithin, s_needWithin_f, s_need1, s_need0, t0_0, t0_1, ↓p_needWithin, e1, ↓zg_2_10, ↓mc_56, e2]
        have : k = 0 ∨ k = 1 ∨ k = 2 ∨ k = 3 := by omega
        rcases this with rfl | rfl | rfl | rfl
        · refine (k_X10_season_39_c0 _ _ _ _ _ _ _).trans ?_
          simp (implicitDefEqProofs := false) (disch := omega) only [↓rI_s, ↓rV_s, ↓rI_e, ↓rV_e, zc_eq, zc_ne, zc_lt, zc_ge, zc_gt, zc_le, zlt_t, zlt_f, zle_t, zle_f, zeq_t, zeq_f, lz, zadd, zsub, zmul, zneg, zb_e0, zb_e1, boo0, boo1, ua_s, ua_n, ua_ua, up_s, u2_s, u2_f, u2_c, u2_u2, Int.natCast_add, Int.zero_add, Int.add_zero, ↓reduceIte, ne_eq, not_true_eq_false, not_false_eq_true, Int.natCast_one, ↓zg_2_7, ↓mc_30]
          rw [c30_inCupBits (by omega) hR2 b2 hV2.1]
          simp (implicitDefEqProofs := false) (disch := omega) only [↓rI_s, ↓rV_s, ↓rI_e, ↓rV_e, zc_eq, zc_ne, zc_lt, zc_ge, zc_gt, zc_le, zlt_t, zlt_f, zle_t, zle_f, zeq_t, zeq_f, lz, zadd, zsub, zmul, zneg, zb_e0, zb_e1, boo0, boo1, ua_s, ua_n, ua_ua, up_s, u2_s, u2_f, u2_c, u2_u2, Int.natCast_add, Int.zero_add, Int.add_zero, ↓reduceIte, ne_eq, not_true_eq_false, not_false_eq_true, Int.natCast_one, j_bitCount (show 1 ≤ d by omega) hw]
          rfl
        · refine (k_X10_season_39_c1 _ _ _ _ _ _ _).trans ?_
          simp (implicitDefEqProofs := false) (disch := omega) only [↓rI_s, ↓rV_s, ↓rI_e, ↓rV_e, zc_eq, zc_ne, zc_lt, zc_ge, zc_gt, zc_le, zlt_t, zlt_f, zle_t, zle_f, zeq_t, zeq_f, lz, zadd, zsub, zmul, zneg, zb_e0, zb_e1, boo0, boo1, ua_s, ua_n, ua_ua, up_s, u2_s, u2_f, u2_c, u2_u2, Int.natCast_add, Int.zero_add, Int.add_zero, ↓reduceIte, ne_eq, not_true_eq_false, not_false_eq_true, Int.natCast_one, ↓zg_2_7, ↓mc_30]
          rw [c30_floorBits (by omega) hR2 b2 hV2.1]
          simp (implicitDefEqProofs := false) (disch := omega) only [↓rI_s, ↓rV_s, ↓rI_e, ↓rV_e, zc_eq, zc_ne, zc_lt, zc_ge, zc_gt, zc_le, zlt_t, zlt_f, zle_t, zle_f, zeq_t, zeq_f, lz, zadd, zsub, zmul, zneg, zb_e0, zb_e1, boo0, boo1, ua_s, ua_n, ua_ua, up_s, u2_s, u2_f, u2_c, u2_u2, Int.natCast_add, Int.zero_add, Int.add_zero, ↓reduceIte, ne_eq, not_true_eq_false, not_false_eq_true, Int.natCast_one, j_bitCount (show 1 ≤ d by omega) hw]
          rfl
        · refine (k_X10_season_39_c2 _ _ _ _ _ _ _).trans ?_
          simp (implicitDefEqProofs := false) (disch := omega) only [↓rI_s, ↓rV_s, ↓rI_e, ↓rV_e, zc_eq, zc_ne, zc_lt, zc_ge, zc_gt, zc_le, zlt_t, zlt_f, zle_t, zle_f, zeq_t, zeq_f, lz, zadd, zsub, zmul, zneg, zb_e0, zb_e1, boo0, boo1, ua_s, ua_n, ua_ua, up_s, u2_s, u2_f, u2_c, u2_u2, Int.natCast_add, Int.zero_add, Int.add_zero, ↓reduceIte, ne_eq, not_true_eq_false, not_false_eq_true, Int.natCast_one, ↓zg_2_10, ↓zg_56_3, y3]
          rfl
        · refine (k_X10_season_39_d _ _ _ _ _ _ _ _ (.inr (by decide))).trans ?_
          simp (implicitDefEqProofs := false) (disch := omega) only [↓rI_s, ↓rV_s, ↓rI_e, ↓rV_e, zc_eq, zc_ne, zc_lt, zc_ge, zc_gt, zc_le, zlt_t, zlt_f, zle_t, zle_f, zeq_t, zeq_f, lz, zadd, zsub, zmul, zneg, zb_e0, zb_e1, boo0, boo1, ua_s, ua_n, ua_ua, up_s, u2_s, u2_f, u2_c, u2_u2, Int.natCast_add, Int.zero_add, Int.add_zero, ↓reduceIte, ne_eq, not_true_eq_false, not_false_eq_true, Int.natCast_one, ↓zg_2_7, ↓mc_30]
          rw [c30_givenWithin (by omega) hR2 b2 hV2.1 hV2 (by decide)]
          rfl
      · rw [if_neg (by omega)]
        exact cOut.il (by simp (implicitDefEqProofs := false) (disch := omega) only [↓rI_s, ↓rV_s, ↓rI_e, ↓rV_e, zc_eq, zc_ne, zc_lt, zc_ge, zc_gt, zc_le, zlt_t, zlt_f, zle_t, zle_f, zeq_t, zeq_f, lz, zadd, zsub, zmul, zneg, zb_e0, zb_e1, boo0, boo1, ua_s, ua_n, ua_ua, up_s, u2_s, u2_f, u2_c, u2_u2, Int.natCast_add, Int.zero_add, Int.add_zero, ↓reduceIte, ne_eq, not_true_eq_false, not_false_eq_true, Int.natCast_one, ↓mc_2, s_needWink (show 2 ≤ d by omega) hR, s_needWink_f (show 2 ≤ d by omega) hR, s_needCup (show 2 ≤ d by omega) hR, s_needCup_f (show 2 ≤ d by omega) hR, s_needHouse (show 2 ≤ d by omega) hR, s_needHouse_f (show 2 ≤ d by omega) hR, s_needThere, s_needThere_f, s_needPress, s_needPress_f, s_needWhat, s_needWhat_f, s_needWithin, s_needWithin_f, s_need1, s_need0, t0_0, t0_1, ↓p_needWithin])
    · rw [if_neg (by omega)]
      exact cOut.il (by simp (implicitDefEqProofs := false) (disch := omega) only [↓rI_s, ↓rV_s, ↓rI_e, ↓rV_e, zc_eq, zc_ne, zc_lt, zc_ge, zc_gt, zc_le, zlt_t, zlt_f, zle_t, zle_f, zeq_t, zeq_f, lz, zadd, zsub, zmul, zneg, zb_e0, zb_e1, boo0, boo1, ua_s, ua_n, ua_ua, up_s, u2_s, u2_f, u2_c, u2_u2, Int.natCast_add, Int.zero_add, Int.add_zero, ↓reduceIte, ne_eq, not_true_eq_false, not_false_eq_true, Int.natCast_one, ↓mc_2, s_needWink (show 2 ≤ d by omega) hR, s_needWink_f (show 2 ≤ d by omega) hR, s_needCup (show 2 ≤ d by omega) hR, s_needCup_f (show 2 ≤ d by omega) hR, s_needHouse (show 2 ≤ d by omega) hR, s_needHouse_f (show 2 ≤ d by omega) hR, s_needThere, s_needThere_f, s_needPress, s_needPress_f, s_needWhat, s_needWhat_f, s_needWithin, s_needWithin_f, s_need1, s_need0, t0_0, t0_1, ↓p_needWithin, ↓p_needWithin_f])
  · rw [if_neg (by omega)]
    exact cOut.il (by simp (implicitDefEqProofs := false) (disch := omega) only [↓rI_s, ↓rV_s, ↓rI_e, ↓rV_e, zc_eq, zc_ne, zc_lt, zc_ge, zc_gt, zc_le, zlt_t, zlt_f, zle_t, zle_f, zeq_t, zeq_f, lz, zadd, zsub, zmul, zneg, zb_e0, zb_e1, boo0, boo1, ua_s, ua_n, ua_ua, up_s, u2_s, u2_f, u2_c, u2_u2, Int.natCast_add, Int.zero_add, Int.add_zero, ↓reduceIte, ne_eq, not_true_eq_false, not_false_eq_true, Int.natCast_one, ↓mc_2, s_needWink (show 2 ≤ d by omega) hR, s_needWink_f (show 2 ≤ d by omega) hR, s_needCup (show 2 ≤ d by omega) hR, s_needCup_f (show 2 ≤ d by omega) hR, s_needHouse (show 2 ≤ d by omega) hR, s_needHouse_f (show 2 ≤ d by omega) hR, s_needThere, s_needThere_f, s_needPress, s_needPress_f, s_needWhat, s_needWhat_f, s_needWithin, s_needWithin_f, s_need1, s_need0, t0_0, t0_1, ↓p_needWithin_f])
theorem m_isSeason {h : qH} {q n : Int} (hd : 1 ≤ d) (h1 : wI q) (h2 : wI n) : q_call q_MT d 272 [.int (zI q), .int (zI n)] h = some (.inl (some (.int (zI (zb ((0 ≤ q ∧ q ≤ 16) ∧ 1 ≤ n ∧ n ≤ 96))))), h) := by
  obtain ⟨d, rfl⟩ : ∃ e, d = e + 1 := ⟨d - 1, by omega⟩
  rw [cl_X11_isSeason]
  by_cases q1 : q < 0
  · rw [zb_f (by omega)]
    simp (implicitDefEqProofs := false) (disch := omega) only [↓rI_s, ↓rV_s, ↓rI_e, ↓rV_e, zc_eq, zc_ne, zc_lt, zc_ge, zc_gt, zc_le, zlt_t, zlt_f, zle_t, zle_f, zeq_t, zeq_f, lz, zadd, zsub, zmul, zneg, zb_e0, zb_e1, boo0, boo1, ua_s, ua_n, ua_ua, up_s, u2_s, u2_f, u2_c, u2_u2, Int.natCast_add, Int.zero_add, Int.add_zero, ↓reduceIte, ne_eq, not_true_eq_false, not_false_eq_true, Int.natCast_one, ↓k_X11_isSeason_0, ↓k_X11_isSeason_25, ↓k_X11_isSeason_26]
  by_cases q2 : 16 < q
  · rw [zb_f (by omega)]
    simp (implicitDefEqProofs := false) (disch := omega) only [↓rI_s, ↓rV_s, ↓rI_e, ↓rV_e, zc_eq, zc_ne, zc_lt, zc_ge, zc_gt, zc_le, zlt_t, zlt_f, zle_t, zle_f, zeq_t, zeq_f, lz, zadd, zsub, zmul, zneg, zb_e0, zb_e1, boo0, boo1, ua_s, ua_n, ua_ua, up_s, u2_s, u2_f, u2_c, u2_u2, Int.natCast_add, Int.zero_add, Int.add_zero, ↓reduceIte, ne_eq, not_true_eq_false, not_false_eq_true, Int.natCast_one, ↓k_X11_isSeason_0, ↓k_X11_isSeason_25, ↓k_X11_isSeason_26]
  by_cases q3 : n < 1
  · rw [zb_f (by omega)]
    simp (implicitDefEqProofs := false) (disch := omega) only [↓rI_s, ↓rV_s, ↓rI_e, ↓rV_e, zc_eq, zc_ne, zc_lt, zc_ge, zc_gt, zc_le, zlt_t, zlt_f, zle_t, zle_f, zeq_t, zeq_f, lz, zadd, zsub, zmul, zneg, zb_e0, zb_e1, boo0, boo1, ua_s, ua_n, ua_ua, up_s, u2_s, u2_f, u2_c, u2_u2, Int.natCast_add, Int.zero_add, Int.add_zero, ↓reduceIte, ne_eq, not_true_eq_false, not_false_eq_true, Int.natCast_one, ↓k_X11_isSeason_0, ↓k_X11_isSeason_25, ↓k_X11_isSeason_26]
  by_cases q4 : 96 < n
  · rw [zb_f (by omega)]
    simp (implicitDefEqProofs := false) (disch := omega) only [↓rI_s, ↓rV_s, ↓rI_e, ↓rV_e, zc_eq, zc_ne, zc_lt, zc_ge, zc_gt, zc_le, zlt_t, zlt_f, zle_t, zle_f, zeq_t, zeq_f, lz, zadd, zsub, zmul, zneg, zb_e0, zb_e1, boo0, boo1, ua_s, ua_n, ua_ua, up_s, u2_s, u2_f, u2_c, u2_u2, Int.natCast_add, Int.zero_add, Int.add_zero, ↓reduceIte, ne_eq, not_true_eq_false, not_false_eq_true, Int.natCast_one, ↓k_X11_isSeason_0, ↓k_X11_isSeason_25, ↓k_X11_isSeason_26]
  · rw [zb_t (by omega)]
    simp (implicitDefEqProofs := false) (disch := omega) only [↓rI_s, ↓rV_s, ↓rI_e, ↓rV_e, zc_eq, zc_ne, zc_lt, zc_ge, zc_gt, zc_le, zlt_t, zlt_f, zle_t, zle_f, zeq_t, zeq_f, lz, zadd, zsub, zmul, zneg, zb_e0, zb_e1, boo0, boo1, ua_s, ua_n, ua_ua, up_s, u2_s, u2_f, u2_c, u2_u2, Int.natCast_add, Int.zero_add, Int.add_zero, ↓reduceIte, ne_eq, not_true_eq_false, not_false_eq_true, Int.natCast_one, ↓k_X11_isSeason_0, ↓k_X11_isSeason_25, ↓k_X11_isSeason_26]
theorem M_season {z q n k : Int} (hd : 12 ≤ d) (hX : mX R F s I A) (h1 : wI q) (h2 : wI n) (h3 : wI k) : mOut I A W (q_call q_MT d 273 [.ref 59, .int (zI z), .int (zI q), .int (zI n), .int (zI k)] (zM I A W)) (if (0 ≤ q ∧ q ≤ 16) ∧ (1 ≤ n ∧ n ≤ 96) ∧ (0 ≤ k ∧ k ≤ 3) then 0 else 2) (vSeason R F s z q n k) 1 := by
  obtain ⟨d, rfl⟩ : ∃ e, d = e + 1 := ⟨d - 1, by omega⟩
  have hR := hX.1
  have hL := hX.2.2.2
  have hw := hR.1.2.1
  have h5 := hR.1.1
  have e0 := hR.2.1
  have hS := m_isSeason (d := d) (h := zM (u2 I 59 0 0) A W) (by omega) h1 h2
  rw [cl_X11_season, k_X11_season_0]
  simp only [lz]
  by_cases c1 : (0 ≤ q ∧ q ≤ 16) ∧ 1 ≤ n ∧ n ≤ 96
  · rw [zb_t c1] at hS
    by_cases c3 : 0 ≤ k ∧ k ≤ 3
    · rw [if_pos ⟨c1.1, c1.2, c3⟩]
      have f0 : fi [(59, 0)] I (u2 I 59 0 0) := fi.refl.f rfl
      obtain ⟨I2, A2, f2, g2, b2, y3, e2⟩ := m_seasonGoes (z := z) (q := q) (n := n) (W := W) (F := F) (A := A) (show 10 ≤ d by omega) (hR.fi f0 rfl) (hL.fi f0 rfl) (by rw [hX.2.1]; exact hX.2.2.1.1) c1.1 c1.2
      rw [hX.2.1] at b2 y3
      have hR2 := ((hR.fi f0 rfl).fi f2 rfl).fr g2 rfl
      have hV2 := ssn_V (q := q) (z := z) (n := n) hR.1 hL.w hX.2.2.1.1
      refine mOut.ok ((f0.wd rfl).tr (f2.wd rfl)) (g2.wd rfl) (by rw [f2 59 0 rfl, u2_s]) ?_
      have : k = 0 ∨ k = 1 ∨ k = 2 ∨ k = 3 := by omega
      rcases this with rfl | rfl | rfl | rfl
      · simp (implicitDefEqProofs := false) (disch := omega) only [↓rI_s, ↓rV_s, ↓rI_e, ↓rV_e, zc_eq, zc_ne, zc_lt, zc_ge, zc_gt, zc_le, zlt_t, zlt_f, zle_t, zle_f, zeq_t, zeq_f, lz, zadd, zsub, zmul, zneg, zb_e0, zb_e1, boo0, boo1, ua_s, ua_n, ua_ua, up_s, u2_s, u2_f, u2_c, u2_u2, Int.natCast_add, Int.zero_add, Int.add_zero, ↓reduceIte, ne_eq, not_true_eq_false, not_false_eq_true, Int.natCast_one, ↓mc_59, ↓zp_59_0, s_within, s_within_f, s_isPress, s_isPress_f, s_isWink (show 2 ≤ d by omega) hR, s_isWink_f (show 2 ≤ d by omega) hR, s_isHouse (show 2 ≤ d by omega) hR, s_isHouse_f (show 2 ≤ d by omega) hR, s_may1, s_may0, m_take (show 2 ≤ d by omega), hS, ↓k_X11_season_28, ↓k_X11_season_29, ↓p_within, e2, ↓k_X11_season_65]
        rw [m_manyOf (A := A2) (by omega) hR2 (by rw [b2]; exact hV2.1.b hR.1) (by decide), b2]
        rfl
      · simp (implicitDefEqProofs := false) (disch := omega) only [↓rI_s, ↓rV_s, ↓rI_e, ↓rV_e, zc_eq, zc_ne, zc_lt, zc_ge, zc_gt, zc_le, zlt_t, zlt_f, zle_t, zle_f, zeq_t, zeq_f, lz, zadd, zsub, zmul, zneg, zb_e0, zb_e1, boo0, boo1, ua_s, ua_n, ua_ua, up_s, u2_s, u2_f, u2_c, u2_u2, Int.natCast_add, Int.zero_add, Int.add_zero, ↓reduceIte, ne_eq, not_true_eq_false, not_false_eq_true, Int.natCast_one, ↓mc_59, ↓zp_59_0, s_within, s_within_f, s_isPress, s_isPress_f, s_isWink (show 2 ≤ d by omega) hR, s_isWink_f (show 2 ≤ d by omega) hR, s_isHouse (show 2 ≤ d by omega) hR, s_isHouse_f (show 2 ≤ d by omega) hR, s_may1, s_may0, m_take (show 2 ≤ d by omega), hS, ↓k_X11_season_28, ↓k_X11_season_29, ↓p_within, e2, ↓k_X11_season_65]
        rw [m_manyOf (A := A2) (by omega) hR2 (by rw [b2]; exact hV2.1.b hR.1) (by decide), b2]
        rfl
      · simp (implicitDefEqProofs := false) (disch := omega) only [↓rI_s, ↓rV_s, ↓rI_e, ↓rV_e, zc_eq, zc_ne, zc_lt, zc_ge, zc_gt, zc_le, zlt_t, zlt_f, zle_t, zle_f, zeq_t, zeq_f, lz, zadd, zsub, zmul, zneg, zb_e0, zb_e1, boo0, boo1, ua_s, ua_n, ua_ua, up_s, u2_s, u2_f, u2_c, u2_u2, Int.natCast_add, Int.zero_add, Int.add_zero, ↓reduceIte, ne_eq, not_true_eq_false, not_false_eq_true, Int.natCast_one, ↓mc_59, ↓zp_59_0, s_within, s_within_f, s_isPress, s_isPress_f, s_isWink (show 2 ≤ d by omega) hR, s_isWink_f (show 2 ≤ d by omega) hR, s_isHouse (show 2 ≤ d by omega) hR, s_isHouse_f (show 2 ≤ d by omega) hR, s_may1, s_may0, m_take (show 2 ≤ d by omega), hS, ↓k_X11_season_28, ↓k_X11_season_29, ↓p_within, e2, ↓zg_59_59, y3]
        rfl
      · simp (implicitDefEqProofs := false) (disch := omega) only [↓rI_s, ↓rV_s, ↓rI_e, ↓rV_e, zc_eq, zc_ne, zc_lt, zc_ge, zc_gt, zc_le, zlt_t, zlt_f, zle_t, zle_f, zeq_t, zeq_f, lz, zadd, zsub, zmul, zneg, zb_e0, zb_e1, boo0, boo1, ua_s, ua_n, ua_ua, up_s, u2_s, u2_f, u2_c, u2_u2, Int.natCast_add, Int.zero_add, Int.add_zero, ↓reduceIte, ne_eq, not_true_eq_false, not_false_eq_true, Int.natCast_one, ↓mc_59, ↓zp_59_0, s_within, s_within_f, s_isPress, s_isPress_f, s_isWink (show 2 ≤ d by omega) hR, s_isWink_f (show 2 ≤ d by omega) hR, s_isHouse (show 2 ≤ d by omega) hR, s_isHouse_f (show 2 ≤ d by omega) hR, s_may1, s_may0, m_take (show 2 ≤ d by omega), hS, ↓k_X11_season_28, ↓k_X11_season_29, ↓p_within, e2]
        have e0' := hR2.2.1
        refine lp_x (fun j (_ : Unit) => q_run qm_X11_season (q_call q_MT d) 86 [.ref 59, .int (zI z), .int (zI q), .int (zI n), .int (zI 3), .int (zI (gvn (fun h => (ssn R F q z n s).2.2 (40 + h)) 9999 j)), .int (zI j)] [] (zM I2 A2 W)) (fun _ _ => True) (fun r => r = _) (rH R) ?_ ?_ 0 () (by omega) trivial
        · intro _ _
          rw [k_X11_season_86]
          simp (implicitDefEqProofs := false) (disch := omega) only [↓rI_s, ↓rV_s, ↓rI_e, ↓rV_e, zc_eq, zc_ne, zc_lt, zc_ge, zc_gt, zc_le, zlt_t, zlt_f, zle_t, zle_f, zeq_t, zeq_f, lz, zadd, zsub, zmul, zneg, zb_e0, zb_e1, boo0, boo1, ua_s, ua_n, ua_ua, up_s, u2_s, u2_f, u2_c, u2_u2, Int.natCast_add, Int.zero_add, Int.add_zero, ↓reduceIte, ne_eq, not_true_eq_false, not_false_eq_true, Int.natCast_one, ↓zg_59_21, e0', Int.le_refl]
          rfl
        · intro j _ hj _
          refine .inr ⟨(), trivial, ?_⟩
          have pj := hV2.2.2.2.2 j (by omega) (by omega)
          have eg : gvn (fun h => (ssn R F q z n s).2.2 (40 + h)) 9999 (j + 1) = gvn (fun h => (ssn R F q z n s).2.2 (40 + h)) 9999 j + (ssn R F q z n s).2.2 (40 + j) := by
            show gvn _ 9999 j + (if _ then _ else _) = _
            rw [if_neg (show ¬ 9999 < (ssn R F q z n s).2.2 (40 + j) by omega)]
          rw [eg, k_X11_season_86]
          simp (implicitDefEqProofs := false) (disch := omega) only [↓rI_s, ↓rV_s, ↓rI_e, ↓rV_e, zc_eq, zc_ne, zc_lt, zc_ge, zc_gt, zc_le, zlt_t, zlt_f, zle_t, zle_f, zeq_t, zeq_f, lz, zadd, zsub, zmul, zneg, zb_e0, zb_e1, boo0, boo1, ua_s, ua_n, ua_ua, up_s, u2_s, u2_f, u2_c, u2_u2, Int.natCast_add, Int.zero_add, Int.add_zero, ↓reduceIte, ne_eq, not_true_eq_false, not_false_eq_true, Int.natCast_one, ↓zg_59_21, e0', ↓zg_59_43, zl_77, b2]
    · rw [if_neg (by omega)]
      exact mOut.il fr.refl (by simp (implicitDefEqProofs := false) (disch := omega) only [↓rI_s, ↓rV_s, ↓rI_e, ↓rV_e, zc_eq, zc_ne, zc_lt, zc_ge, zc_gt, zc_le, zlt_t, zlt_f, zle_t, zle_f, zeq_t, zeq_f, lz, zadd, zsub, zmul, zneg, zb_e0, zb_e1, boo0, boo1, ua_s, ua_n, ua_ua, up_s, u2_s, u2_f, u2_c, u2_u2, Int.natCast_add, Int.zero_add, Int.add_zero, ↓reduceIte, ne_eq, not_true_eq_false, not_false_eq_true, Int.natCast_one, ↓mc_59, ↓zp_59_0, s_within, s_within_f, s_isPress, s_isPress_f, s_isWink (show 2 ≤ d by omega) hR, s_isWink_f (show 2 ≤ d by omega) hR, s_isHouse (show 2 ≤ d by omega) hR, s_isHouse_f (show 2 ≤ d by omega) hR, s_may1, s_may0, m_take (show 2 ≤ d by omega), hS, ↓k_X11_season_28, ↓k_X11_season_29, ↓p_within_f])
  · rw [zb_f c1] at hS
    rw [if_neg (by omega)]
    exact mOut.il fr.refl (by simp (implicitDefEqProofs := false) (disch := omega) only [↓rI_s, ↓rV_s, ↓rI_e, ↓rV_e, zc_eq, zc_ne, zc_lt, zc_ge, zc_gt, zc_le, zlt_t, zlt_f, zle_t, zle_f, zeq_t, zeq_f, lz, zadd, zsub, zmul, zneg, zb_e0, zb_e1, boo0, boo1, ua_s, ua_n, ua_ua, up_s, u2_s, u2_f, u2_c, u2_u2, Int.natCast_add, Int.zero_add, Int.add_zero, ↓reduceIte, ne_eq, not_true_eq_false, not_false_eq_true, Int.natCast_one, ↓mc_59, ↓zp_59_0, s_within, s_within_f, s_isPress, s_isPress_f, s_isWink (show 2 ≤ d by omega) hR, s_isWink_f (show 2 ≤ d by omega) hR, s_isHouse (show 2 ≤ d by omega) hR, s_isHouse_f (show 2 ≤ d by omega) hR, s_may1, s_may0, m_take (show 2 ≤ d by omega), hS, ↓k_X11_season_28, ↓k_X11_season_29])
theorem C_span {z m q n k : Int} (hd : 8 ≤ d) (hX : cX R F s I A) (h0 : wI m) (h1 : wI q) (h2 : wI n) (h3 : wI k) : cOut I A W (q_call q_MT d 143 [.ref 2, .int (zI z), .int (zI m), .int (zI q), .int (zI n), .int (zI k)] (zM I A W)) (if (1 ≤ m ∧ m ≤ 20) ∧ (0 ≤ q ∧ q ≤ 16) ∧ (1 ≤ n ∧ n ≤ 96) ∧ (0 ≤ k ∧ k ≤ 2) then 0 else 2) (vSpan R F s z m q n k) := by
  obtain ⟨d, rfl⟩ : ∃ e, d = e + 1 := ⟨d - 1, by omega⟩
  have hR := hX.1
  have hw := hR.1.2.1
  rw [cl_X10_span, k_X10_span_0]
  simp only [lz]
  by_cases c0 : 1 ≤ m ∧ m ≤ 20
  · by_cases c1 : 0 ≤ q ∧ q ≤ 16
    · by_cases c2 : 1 ≤ n ∧ n ≤ 96
      · by_cases c3 : 0 ≤ k ∧ k ≤ 2
        · rw [if_pos ⟨c0, c1, c2, c3⟩]
          simp (implicitDefEqProofs := false) (disch := omega) only [↓rI_s, ↓rV_s, ↓rI_e, ↓rV_e, zc_eq, zc_ne, zc_lt, zc_ge, zc_gt, zc_le, zlt_t, zlt_f, zle_t, zle_f, zeq_t, zeq_f, lz, zadd, zsub, zmul, zneg, zb_e0, zb_e1, boo0, boo1, ua_s, ua_n, ua_ua, up_s, u2_s, u2_f, u2_c, u2_u2, Int.natCast_add, Int.zero_add, Int.add_zero, ↓reduceIte, ne_eq, not_true_eq_false, not_false_eq_true, Int.natCast_one, ↓mc_2, s_needWink (show 2 ≤ d by omega) hR, s_needWink_f (show 2 ≤ d by omega) hR, s_needCup (show 2 ≤ d by omega) hR, s_needCup_f (show 2 ≤ d by omega) hR, s_needHouse (show 2 ≤ d by omega) hR, s_needHouse_f (show 2 ≤ d by omega) hR, s_needThere, s_needThere_f, s_needPress, s_needPress_f, s_needWhat, s_needWhat_f, s_needWithin, s_needWithin_f, s_need1, s_need0, t0_0, t0_1, ↓p_needWithin]
          refine lp_x (fun j (M : (Nat → Nat → Int) × (Nat → Int → Int) × Value) => q_run qm_X10_span (q_call q_MT d) 45 [.ref 2, .int (zI z), .int (zI m), .int (zI q), .int (zI n), .int (zI k), .int (zI (spn R F s z q n j).1), .int (zI (spn R F s z q n j).2.1), .int (zI (spn R F s z q n j).2.2), .int (zI j), M.2.2] [] (zM M.1 M.2.1 W)) (fun j M => fi sK I M.1 ∧ fr tL A M.2.1) (fun r => cOut I A W r 0 (vSpan R F s z m q n k)) m.toNat ?_ ?_ 0 (I, A, q_junk) (by omega) ⟨fi.refl, fr.refl⟩
          · rintro ⟨I1, A1, l10⟩ ⟨f, g⟩
            refine cOut.ok (f.wd rfl) (g.wd rfl) ?_
            dsimp only
            rw [k_X10_span_45]
            have : k = 0 ∨ k = 1 ∨ k = 2 := by omega
            rcases this with rfl | rfl | rfl
            · simp (implicitDefEqProofs := false) (disch := omega) only [↓rI_s, ↓rV_s, ↓rI_e, ↓rV_e, zc_eq, zc_ne, zc_lt, zc_ge, zc_gt, zc_le, zlt_t, zlt_f, zle_t, zle_f, zeq_t, zeq_f, lz, zadd, zsub, zmul, zneg, zb_e0, zb_e1, boo0, boo1, ua_s, ua_n, ua_ua, up_s, u2_s, u2_f, u2_c, u2_u2, Int.natCast_add, Int.zero_add, Int.add_zero, ↓reduceIte, ne_eq, not_true_eq_false, not_false_eq_true, Int.natCast_one]; rfl
            · simp (implicitDefEqProofs := false) (disch := omega) only [↓rI_s, ↓rV_s, ↓rI_e, ↓rV_e, zc_eq, zc_ne, zc_lt, zc_ge, zc_gt, zc_le, zlt_t, zlt_f, zle_t, zle_f, zeq_t, zeq_f, lz, zadd, zsub, zmul, zneg, zb_e0, zb_e1, boo0, boo1, ua_s, ua_n, ua_ua, up_s, u2_s, u2_f, u2_c, u2_u2, Int.natCast_add, Int.zero_add, Int.add_zero, ↓reduceIte, ne_eq, not_true_eq_false, not_false_eq_true, Int.natCast_one, ↓k_X10_span_146]; rfl
            · simp (implicitDefEqProofs := false) (disch := omega) only [↓rI_s, ↓rV_s, ↓rI_e, ↓rV_e, zc_eq, zc_ne, zc_lt, zc_ge, zc_gt, zc_le, zlt_t, zlt_f, zle_t, zle_f, zeq_t, zeq_f, lz, zadd, zsub, zmul, zneg, zb_e0, zb_e1, boo0, boo1, ua_s, ua_n, ua_ua, up_s, u2_s, u2_f, u2_c, u2_u2, Int.natCast_add, Int.zero_add, Int.add_zero, ↓reduceIte, ne_eq, not_true_eq_false, not_false_eq_true, Int.natCast_one, ↓k_X10_span_146]; rfl
          · rintro j ⟨I1, A1, l10⟩ hj ⟨f, g⟩
            dsimp only at f g ⊢
            have hX1 : cX R F s I1 A1 := hX.t (f.wd rfl) (g.wd rfl)
            obtain ⟨I2, A2, f2, g2, b2, e2⟩ := c_startTrial (W := W) (show 3 ≤ d by omega) hX1
            obtain ⟨I3, A3, f3, g3, b3, y3, e3⟩ := c_runS (z := z + j) (q := q) (n := n) (W := W) (F := F) (show 6 ≤ d by omega) ((hX1.1.fi f2 rfl).fr g2 rfl) ((hX1.2.2.2.fi f2 rfl).fr g2 rfl) b2 hX.2.2.1.1 c1 c2
            have hR3 := (((hX1.1.fi f2 rfl).fr g2 rfl).fi f3 rfl).fr g3 rfl
            have hV3 := ssn_V (q := q) (z := z + j) (n := n) hR.1 hX.2.2.2.w hX.2.2.1.1
            have sb := spn_b (F := F) (s := s) (z := z) (q := q) (n := n) hw j
            have m0 := many_lo R (ssn R F q (z + j) n s).2.2 (-3)
            have m1 := many_hi R (ssn R F q (z + j) n s).2.2 (-3)
            have hz := bts_z (p := fun w => decide ((ssn R F q (z + j) n s).2.2 w = -2)) (n := rW R)
            have hb := bts_b hw fun w => decide ((ssn R F q (z + j) n s).2.2 w = -2)
            have hcz : many R (ssn R F q (z + j) n s).2.2 (-2) = 0 ↔ bts (rW R) (fun w => decide ((ssn R F q (z + j) n s).2.2 w = -2)) = 0 := by
              rw [hz]
              constructor
              · intro h k hk qq
                have := cnt_pos (p := fun w => decide ((ssn R F q (z + j) n s).2.2 w = -2)) hk qq
                unfold many at h
                omega
              · intro h
                have l0 := many_lo R (ssn R F q (z + j) n s).2.2 (-2)
                by_cases p : 0 < many R (ssn R F q (z + j) n s).2.2 (-2)
                · obtain ⟨k, hk, hp⟩ := cnt_ex p
                  exact absurd hp (h k hk)
                · omega
            have ec : (cnt (rW R) fun w => decide ((ssn R F q (z + j) n s).2.2 w = -3)) = many R (ssn R F q (z + j) n s).2.2 (-3) := rfl
            refine .inr ⟨(I3, A3, .int (zI (many R (ssn R F q (z + j) n s).2.2 (-3)))), ⟨(f.tr (f2.wd rfl)).tr f3, (g.tr g2).tr g3⟩, ?_⟩
            rw [k_X10_span_45]
            simp (implicitDefEqProofs := false) (disch := omega) only [↓rI_s, ↓rV_s, ↓rI_e, ↓rV_e, zc_eq, zc_ne, zc_lt, zc_ge, zc_gt, zc_le, zlt_t, zlt_f, zle_t, zle_f, zeq_t, zeq_f, lz, zadd, zsub, zmul, zneg, zb_e0, zb_e1, boo0, boo1, ua_s, ua_n, ua_ua, up_s, u2_s, u2_f, u2_c, u2_u2, Int.natCast_add, Int.zero_add, Int.add_zero, ↓reduceIte, ne_eq, not_true_eq_false, not_false_eq_true, Int.natCast_one, ↓mc_2, e2, ↓zg_2_10, ↓mc_56, e3, ↓zg_2_7, ↓mc_30]
            rw [c30_inCupBits (by omega) hR3 b3 hV3.1]
            simp (implicitDefEqProofs := false) (disch := omega) only [↓rI_s, ↓rV_s, ↓rI_e, ↓rV_e, zc_eq, zc_ne, zc_lt, zc_ge, zc_gt, zc_le, zlt_t, zlt_f, zle_t, zle_f, zeq_t, zeq_f, lz, zadd, zsub, zmul, zneg, zb_e0, zb_e1, boo0, boo1, ua_s, ua_n, ua_ua, up_s, u2_s, u2_f, u2_c, u2_u2, Int.natCast_add, Int.zero_add, Int.add_zero, ↓reduceIte, ne_eq, not_true_eq_false, not_false_eq_true, Int.natCast_one, j_bitCount (show 1 ≤ d by omega) hw, ↓zg_2_7, ↓mc_30]
            rw [c30_floorBits (by omega) hR3 b3 hV3.1, ec]
            have es : spn R F s z q n (j + 1) = (if many R (ssn R F q (z + j) n s).2.2 (-3) < (spn R F s z q n j).1 then many R (ssn R F q (z + j) n s).2.2 (-3) else (spn R F s z q n j).1, if (spn R F s z q n j).2.1 < many R (ssn R F q (z + j) n s).2.2 (-3) then many R (ssn R F q (z + j) n s).2.2 (-3) else (spn R F s z q n j).2.1, (spn R F s z q n j).2.2 + (if many R (ssn R F q (z + j) n s).2.2 (-2) = 0 then 1 else 0)) := rfl
            rw [es]
            dsimp only
            by_cases p : many R (ssn R F q (z + j) n s).2.2 (-2) = 0
            · rw [if_pos p, hcz.mp p]
              simp (implicitDefEqProofs := false) (disch := omega) only [↓rI_s, ↓rV_s, ↓rI_e, ↓rV_e, zc_eq, zc_ne, zc_lt, zc_ge, zc_gt, zc_le, zlt_t, zlt_f, zle_t, zle_f, zeq_t, zeq_f, lz, zadd, zsub, zmul, zneg, zb_e0, zb_e1, boo0, boo1, ua_s, ua_n, ua_ua, up_s, u2_s, u2_f, u2_c, u2_u2, Int.natCast_add, Int.zero_add, Int.add_zero, ↓reduceIte, ne_eq, not_true_eq_false, not_false_eq_true, Int.natCast_one, ↓k_X10_span_116, zif]
            · rw [if_neg p]
              have p2 : ¬ bts (rW R) (fun w => decide ((ssn R F q (z + j) n s).2.2 w = -2)) = 0 := fun q => p (hcz.mpr q)
              simp (implicitDefEqProofs := false) (disch := omega) only [↓rI_s, ↓rV_s, ↓rI_e, ↓rV_e, zc_eq, zc_ne, zc_lt, zc_ge, zc_gt, zc_le, zlt_t, zlt_f, zle_t, zle_f, zeq_t, zeq_f, lz, zadd, zsub, zmul, zneg, zb_e0, zb_e1, boo0, boo1, ua_s, ua_n, ua_ua, up_s, u2_s, u2_f, u2_c, u2_u2, Int.natCast_add, Int.zero_add, Int.add_zero, ↓reduceIte, ne_eq, not_true_eq_false, not_false_eq_true, Int.natCast_one, ↓k_X10_span_116, zif]
        · rw [if_neg (by omega)]
          exact cOut.il (by simp (implicitDefEqProofs := false) (disch := omega) only [↓rI_s, ↓rV_s, ↓rI_e, ↓rV_e, zc_eq, zc_ne, zc_lt, zc_ge, zc_gt, zc_le, zlt_t, zlt_f, zle_t, zle_f, zeq_t, zeq_f, lz, zadd, zsub, zmul, zneg, zb_e0, zb_e1, boo0, boo1, ua_s, ua_n, ua_ua, up_s, u2_s, u2_f, u2_c, u2_u2, Int.natCast_add, Int.zero_add, Int.add_zero, ↓reduceIte, ne_eq, not_true_eq_false, not_false_eq_true, Int.natCast_one, ↓mc_2, s_needWink (show 2 ≤ d by omega) hR, s_needWink_f (show 2 ≤ d by omega) hR, s_needCup (show 2 ≤ d by omega) hR, s_needCup_f (show 2 ≤ d by omega) hR, s_needHouse (show 2 ≤ d by omega) hR, s_needHouse_f (show 2 ≤ d by omega) hR, s_needThere, s_needThere_f, s_needPress, s_needPress_f, s_needWhat, s_needWhat_f, s_needWithin, s_needWithin_f, s_need1, s_need0, t0_0, t0_1, ↓p_needWithin])
      · rw [if_neg (by omega)]
        exact cOut.il (by simp (implicitDefEqProofs := false) (disch := omega) only [↓rI_s, ↓rV_s, ↓rI_e, ↓rV_e, zc_eq, zc_ne, zc_lt, zc_ge, zc_gt, zc_le, zlt_t, zlt_f, zle_t, zle_f, zeq_t, zeq_f, lz, zadd, zsub, zmul, zneg, zb_e0, zb_e1, boo0, boo1, ua_s, ua_n, ua_ua, up_s, u2_s, u2_f, u2_c, u2_u2, Int.natCast_add, Int.zero_add, Int.add_zero, ↓reduceIte, ne_eq, not_true_eq_false, not_false_eq_true, Int.natCast_one, ↓mc_2, s_needWink (show 2 ≤ d by omega) hR, s_needWink_f (show 2 ≤ d by omega) hR, s_needCup (show 2 ≤ d by omega) hR, s_needCup_f (show 2 ≤ d by omega) hR, s_needHouse (show 2 ≤ d by omega) hR, s_needHouse_f (show 2 ≤ d by omega) hR, s_needThere, s_needThere_f, s_needPress, s_needPress_f, s_needWhat, s_needWhat_f, s_needWithin, s_needWithin_f, s_need1, s_need0, t0_0, t0_1, ↓p_needWithin, ↓p_needWithin_f])
    · rw [if_neg (by omega)]
      exact cOut.il (by simp (implicitDefEqProofs := false) (disch := omega) only [↓rI_s, ↓rV_s, ↓rI_e, ↓rV_e, zc_eq, zc_ne, zc_lt, zc_ge, zc_gt, zc_le, zlt_t, zlt_f, zle_t, zle_f, zeq_t, zeq_f, lz, zadd, zsub, zmul, zneg, zb_e0, zb_e1, boo0, boo1, ua_s, ua_n, ua_ua, up_s, u2_s, u2_f, u2_c, u2_u2, Int.natCast_add, Int.zero_add, Int.add_zero, ↓reduceIte, ne_eq, not_true_eq_false, not_false_eq_true, Int.natCast_one, ↓mc_2, s_needWink (show 2 ≤ d by omega) hR, s_needWink_f (show 2 ≤ d by omega) hR, s_needCup (show 2 ≤ d by omega) hR, s_needCup_f (show 2 ≤ d by omega) hR, s_needHouse (show 2 ≤ d by omega) hR, s_needHouse_f (show 2 ≤ d by omega) hR, s_needThere, s_needThere_f, s_needPress, s_needPress_f, s_needWhat, s_needWhat_f, s_needWithin, s_needWithin_f, s_need1, s_need0, t0_0, t0_1, ↓p_needWithin, ↓p_needWithin_f])
  · rw [if_neg (by omega)]
    exact cOut.il (by simp (implicitDefEqProofs := false) (disch := omega) only [↓rI_s, ↓rV_s, ↓rI_e, ↓rV_e, zc_eq, zc_ne, zc_lt, zc_ge, zc_gt, zc_le, zlt_t, zlt_f, zle_t, zle_f, zeq_t, zeq_f, lz, zadd, zsub, zmul, zneg, zb_e0, zb_e1, boo0, boo1, ua_s, ua_n, ua_ua, up_s, u2_s, u2_f, u2_c, u2_u2, Int.natCast_add, Int.zero_add, Int.add_zero, ↓reduceIte, ne_eq, not_true_eq_false, not_false_eq_true, Int.natCast_one, ↓mc_2, s_needWink (show 2 ≤ d by omega) hR, s_needWink_f (show 2 ≤ d by omega) hR, s_needCup (show 2 ≤ d by omega) hR, s_needCup_f (show 2 ≤ d by omega) hR, s_needHouse (show 2 ≤ d by omega) hR, s_needHouse_f (show 2 ≤ d by omega) hR, s_needThere, s_needThere_f, s_needPress, s_needPress_f, s_needWhat, s_needWhat_f, s_needWithin, s_needWithin_f, s_need1, s_need0, t0_0, t0_1, ↓p_needWithin, ↓p_needWithin_f])
theorem M_span {z m q n k : Int} (hd : 12 ≤ d) (hX : mX R F s I A) (h0 : wI m) (h1 : wI q) (h2 : wI n) (h3 : wI k) : mOut I A W (q_call q_MT d 274 [.ref 59, .int (zI z), .int (zI m), .int (zI q), .int (zI n), .int (zI k)] (zM I A W)) (if (1 ≤ m ∧ m ≤ 20) ∧ (0 ≤ q ∧ q ≤ 16) ∧ (1 ≤ n ∧ n ≤ 96) ∧ (0 ≤ k ∧ k ≤ 2) then 0 else 2) (vSpan R F s z m q n k) 1 := by
  obtain ⟨d, rfl⟩ : ∃ e, d = e + 1 := ⟨d - 1, by omega⟩
  have hX' := hX
  have hR := hX.1
  have hL := hX.2.2.2
  have hw := hR.1.2.1
  have hV := hX.2.2.1.1
  have hS := m_isSeason (d := d) (h := zM (u2 I 59 0 0) A W) (by omega) h1 h2
  have f0 : fi [(59, 0)] I (u2 I 59 0 0) := fi.refl.f rfl
  rw [cl_X11_span, k_X11_span_0]
  simp only [lz]
  by_cases c0 : 1 ≤ m ∧ m ≤ 20
  · by_cases c1 : (0 ≤ q ∧ q ≤ 16) ∧ 1 ≤ n ∧ n ≤ 96
    · rw [zb_t c1] at hS
      by_cases c3 : 0 ≤ k ∧ k ≤ 2
      · rw [if_pos ⟨c0, c1.1, c1.2, c3⟩]
        simp (implicitDefEqProofs := false) (disch := omega) only [↓rI_s, ↓rV_s, ↓rI_e, ↓rV_e, zc_eq, zc_ne, zc_lt, zc_ge, zc_gt, zc_le, zlt_t, zlt_f, zle_t, zle_f, zeq_t, zeq_f, lz, zadd, zsub, zmul, zneg, zb_e0, zb_e1, boo0, boo1, ua_s, ua_n, ua_ua, up_s, u2_s, u2_f, u2_c, u2_u2, Int.natCast_add, Int.zero_add, Int.add_zero, ↓reduceIte, ne_eq, not_true_eq_false, not_false_eq_true, Int.natCast_one, ↓mc_59, ↓zp_59_0, s_within, s_within_f, s_isPress, s_isPress_f, s_isWink (show 2 ≤ d by omega) hR, s_isWink_f (show 2 ≤ d by omega) hR, s_isHouse (show 2 ≤ d by omega) hR, s_isHouse_f (show 2 ≤ d by omega) hR, s_may1, s_may0, m_take (show 2 ≤ d by omega), hS, ↓k_X11_span_39, ↓k_X11_span_40, ↓p_within]
        refine lp_x (fun j (M : (Nat → Nat → Int) × (Nat → Int → Int) × Value) => q_run qm_X11_span (q_call q_MT d) 62 [.ref 59, .int (zI z), .int (zI m), .int (zI q), .int (zI n), .int (zI k), .int (zI (if j = 0 then -1 else (spn R F s z q n j).1)), .int (zI (spn R F s z q n j).2.1), .int (zI (spn R F s z q n j).2.2), .int (zI j), M.2.2] [] (zM M.1 M.2.1 W)) (fun j M => fi [(59, 58), (59, 59)] (u2 I 59 0 0) M.1 ∧ fr [72, 73, 77, 79] A M.2.1) (fun r => mOut I A W r 0 (vSpan R F s z m q n k) 1) m.toNat ?_ ?_ 0 (u2 I 59 0 0, A, q_junk) (by omega) ⟨fi.refl, fr.refl⟩
        · rintro ⟨I1, A1, l10⟩ ⟨f, g⟩
          dsimp only at f g ⊢
          refine mOut.ok ((f0.wd rfl).tr (f.wd rfl)) (g.wd rfl) (by rw [f 59 0 rfl, u2_s]) ?_
          rw [if_neg (show ¬ m.toNat = 0 by omega), k_X11_span_62]
          have : k = 0 ∨ k = 1 ∨ k = 2 := by omega
          rcases this with rfl | rfl | rfl
          · simp (implicitDefEqProofs := false) (disch := omega) only [↓rI_s, ↓rV_s, ↓rI_e, ↓rV_e, zc_eq, zc_ne, zc_lt, zc_ge, zc_gt, zc_le, zlt_t, zlt_f, zle_t, zle_f, zeq_t, zeq_f, lz, zadd, zsub, zmul, zneg, zb_e0, zb_e1, boo0, boo1, ua_s, ua_n, ua_ua, up_s, u2_s, u2_f, u2_c, u2_u2, Int.natCast_add, Int.zero_add, Int.add_zero, ↓reduceIte, ne_eq, not_true_eq_false, not_false_eq_true, Int.natCast_one, ↓k_X11_span_0, ↓k_X11_span_39, ↓k_X11_span_40, ↓k_X11_span_100, ↓k_X11_span_107, ↓k_X11_span_123, ↓k_X11_span_141, ↓k_X11_span_173, zp_59_0, ↓mc_59]; rfl
          · simp (implicitDefEqProofs := false) (disch := omega) only [↓rI_s, ↓rV_s, ↓rI_e, ↓rV_e, zc_eq, zc_ne, zc_lt, zc_ge, zc_gt, zc_le, zlt_t, zlt_f, zle_t, zle_f, zeq_t, zeq_f, lz, zadd, zsub, zmul, zneg, zb_e0, zb_e1, boo0, boo1, ua_s, ua_n, ua_ua, up_s, u2_s, u2_f, u2_c, u2_u2, Int.natCast_add, Int.zero_add, Int.add_zero, ↓reduceIte, ne_eq, not_true_eq_false, not_false_eq_true, Int.natCast_one, ↓k_X11_span_0, ↓k_X11_span_39, ↓k_X11_span_40, ↓k_X11_span_100, ↓k_X11_span_107, ↓k_X11_span_123, ↓k_X11_span_141, ↓k_X11_span_173, zp_59_0, ↓mc_59]; rfl
          · simp (implicitDefEqProofs := false) (disch := omega) only [↓rI_s, ↓rV_s, ↓rI_e, ↓rV_e, zc_eq, zc_ne, zc_lt, zc_ge, zc_gt, zc_le, zlt_t, zlt_f, zle_t, zle_f, zeq_t, zeq_f, lz, zadd, zsub, zmul, zneg, zb_e0, zb_e1, boo0, boo1, ua_s, ua_n, ua_ua, up_s, u2_s, u2_f, u2_c, u2_u2, Int.natCast_add, Int.zero_add, Int.add_zero, ↓reduceIte, ne_eq, not_true_eq_false, not_false_eq_true, Int.natCast_one, ↓k_X11_span_0, ↓k_X11_span_39, ↓k_X11_span_40, ↓k_X11_span_100, ↓k_X11_span_107, ↓k_X11_span_123, ↓k_X11_span_141, ↓k_X11_span_173, zp_59_0, ↓mc_59]; rfl
        · rintro j ⟨I1, A1, l10⟩ hj ⟨f, g⟩
          dsimp only at f g ⊢
          have he : e47 s (cpy 47 (A1 76) (A1 77)) := fun i i0 i1 => by
            rw [cpy_t i0 i1, g 76 rfl]; exact (hX'.n i0 i1).symm
          have hVt : sV R (cpy 47 (A1 76) (A1 77)) := hV.cg hw (fun w w0 w1 => (he w w0 (by omega)).symm) (fun w w0 w1 => (he w (by omega) (by omega)).symm) (fun h h0 h1 => by
            have := hR.1.1
            rw [← he _ (by omega) (by omega)]; exact hV.2.2.2.2 h h0 h1)
          have hR1 := ((hR.fi f0 rfl).fi f rfl).fr g rfl
          have hL1 := ((hL.fi f0 rfl).fi f rfl).fr g rfl
          obtain ⟨I2, A2, f2, g2, b2, y3, e2⟩ := m_seasonGoes (z := z + j) (q := q) (n := n) (W := W) (F := F) (show 10 ≤ d by omega) hR1 hL1 hVt c1.1 c1.2
          have hse := (ssn_e (q := q) (z := z + j) (n := n) he hR.1 hL.w hV).2
          have hR2 := (hR1.fi f2 rfl).fr g2 rfl
          have hV2 := ssn_V (q := q) (z := z + j) (n := n) hR.1 hL.w hVt
          have em3 : (cnt (rW R) fun w => decide (A2 77 w = -3)) = many R (ssn R F q (z + j) n s).2.2 (-3) := by
            rw [b2]; exact (many_cg (fun v v0 v1 => hse v v0 (by omega)) (-3)).symm
          have em2 : (cnt (rW R) fun w => decide (A2 77 w = -2)) = many R (ssn R F q (z + j) n s).2.2 (-2) := by
            rw [b2]; exact (many_cg (fun v v0 v1 => hse v v0 (by omega)) (-2)).symm
          have hsb : sB R (A2 77) := by rw [b2]; exact hV2.1.b hR.1
          have sb := spn_b (F := F) (s := s) (z := z) (q := q) (n := n) hw j
          have m0 := many_lo R (ssn R F q (z + j) n s).2.2 (-3)
          have m1 := many_hi R (ssn R F q (z + j) n s).2.2 (-3)
          have n0 := many_lo R (ssn R F q (z + j) n s).2.2 (-2)
          have n1 := many_hi R (ssn R F q (z + j) n s).2.2 (-2)
          have es : spn R F s z q n (j + 1) = (if many R (ssn R F q (z + j) n s).2.2 (-3) < (spn R F s z q n j).1 then many R (ssn R F q (z + j) n s).2.2 (-3) else (spn R F s z q n j).1, if (spn R F s z q n j).2.1 < many R (ssn R F q (z + j) n s).2.2 (-3) then many R (ssn R F q (z + j) n s).2.2 (-3) else (spn R F s z q n j).2.1, (spn R F s z q n j).2.2 + (if many R (ssn R F q (z + j) n s).2.2 (-2) = 0 then 1 else 0)) := rfl
          have e10 : j = 0 → (spn R F s z q n j).1 = 10 := fun h => by subst h; rfl
          refine .inr ⟨(I2, A2, .int (zI (many R (ssn R F q (z + j) n s).2.2 (-3)))), ⟨f.tr f2, g.tr g2⟩, ?_⟩
          rw [if_neg (show ¬ j + 1 = 0 by omega), es, k_X11_span_62]
          dsimp only
          simp (implicitDefEqProofs := false) (disch := omega) only [↓rI_s, ↓rV_s, ↓rI_e, ↓rV_e, zc_eq, zc_ne, zc_lt, zc_ge, zc_gt, zc_le, zlt_t, zlt_f, zle_t, zle_f, zeq_t, zeq_f, lz, zadd, zsub, zmul, zneg, zb_e0, zb_e1, boo0, boo1, ua_s, ua_n, ua_ua, up_s, u2_s, u2_f, u2_c, u2_u2, Int.natCast_add, Int.zero_add, Int.add_zero, ↓reduceIte, ne_eq, not_true_eq_false, not_false_eq_true, Int.natCast_one, ↓mc_59, e2]
          rw [m_manyOf (A := A2) (by omega) hR2 hsb (by decide), em3]
          generalize many R (ssn R F q (z + j) n s).2.2 (-3) = v3 at *
          generalize hv2 : many R (ssn R F q (z + j) n s).2.2 (-2) = v2 at *
          generalize spn R F s z q n j = p at *
          obtain ⟨p1, p2, p3⟩ := p
          dsimp only at *
          have fin : ∀ (l6 l7 : Int) (l10 : Value), q_run qm_X11_span (q_call q_MT d) 123 [.ref 59, .int (zI z), .int (zI m), .int (zI q), .int (zI n), .int (zI k), .int (zI l6), .int (zI p2), .int (zI p3), .int (zI j), l10] [.int (zI l7)] (zM I2 A2 W) = q_run qm_X11_span (q_call q_MT d) 62 [.ref 59, .int (zI z), .int (zI m), .int (zI q), .int (zI n), .int (zI k), .int (zI l6), .int (zI l7), .int (zI (p3 + (if v2 = 0 then 1 else 0))), .int (zI ((j : Int) + 1)), l10] [] (zM I2 A2 W) := by
            intro l6 l7 l10
            rw [k_X11_span_123]
            simp (implicitDefEqProofs := false) (disch := omega) only [↓rI_s, ↓rV_s, ↓rI_e, ↓rV_e, zc_eq, zc_ne, zc_lt, zc_ge, zc_gt, zc_le, zlt_t, zlt_f, zle_t, zle_f, zeq_t, zeq_f, lz, zadd, zsub, zmul, zneg, zb_e0, zb_e1, boo0, boo1, ua_s, ua_n, ua_ua, up_s, u2_s, u2_f, u2_c, u2_u2, Int.natCast_add, Int.zero_add, Int.add_zero, ↓reduceIte, ne_eq, not_true_eq_false, not_false_eq_true, Int.natCast_one, ↓mc_59]
            rw [m_manyOf (A := A2) (by omega) hR2 hsb (by decide), em2]
            by_cases p : v2 = 0
            · rw [if_pos p]
              simp (implicitDefEqProofs := false) (disch := omega) only [↓rI_s, ↓rV_s, ↓rI_e, ↓rV_e, zc_eq, zc_ne, zc_lt, zc_ge, zc_gt, zc_le, zlt_t, zlt_f, zle_t, zle_f, zeq_t, zeq_f, lz, zadd, zsub, zmul, zneg, zb_e0, zb_e1, boo0, boo1, ua_s, ua_n, ua_ua, up_s, u2_s, u2_f, u2_c, u2_u2, Int.natCast_add, Int.zero_add, Int.add_zero, ↓reduceIte, ne_eq, not_true_eq_false, not_false_eq_true, Int.natCast_one, ↓k_X11_span_0, ↓k_X11_span_39, ↓k_X11_span_40, ↓k_X11_span_100, ↓k_X11_span_107, ↓k_X11_span_123, ↓k_X11_span_141, ↓k_X11_span_173, zp_59_0, ↓mc_59]
            · rw [if_neg p]
              simp (implicitDefEqProofs := false) (disch := omega) only [↓rI_s, ↓rV_s, ↓rI_e, ↓rV_e, zc_eq, zc_ne, zc_lt, zc_ge, zc_gt, zc_le, zlt_t, zlt_f, zle_t, zle_f, zeq_t, zeq_f, lz, zadd, zsub, zmul, zneg, zb_e0, zb_e1, boo0, boo1, ua_s, ua_n, ua_ua, up_s, u2_s, u2_f, u2_c, u2_u2, Int.natCast_add, Int.zero_add, Int.add_zero, ↓reduceIte, ne_eq, not_true_eq_false, not_false_eq_true, Int.natCast_one, ↓k_X11_span_0, ↓k_X11_span_39, ↓k_X11_span_40, ↓k_X11_span_100, ↓k_X11_span_107, ↓k_X11_span_123, ↓k_X11_span_141, ↓k_X11_span_173, zp_59_0, ↓mc_59]
          have f107 : ∀ (l6 : Int), q_run qm_X11_span (q_call q_MT d) 107 [.ref 59, .int (zI z), .int (zI m), .int (zI q), .int (zI n), .int (zI k), .int (zI (if j = 0 then -1 else p1)), .int (zI p2), .int (zI p3), .int (zI j), .int (zI v3)] [.int (zI l6)] (zM I2 A2 W) = q_run qm_X11_span (q_call q_MT d) 62 [.ref 59, .int (zI z), .int (zI m), .int (zI q), .int (zI n), .int (zI k), .int (zI l6), .int (zI (if p2 < v3 then v3 else p2)), .int (zI (p3 + (if v2 = 0 then 1 else 0))), .int (zI ((j : Int) + 1)), .int (zI v3)] [] (zM I2 A2 W) := by
            intro l6
            rw [k_X11_span_107]
            by_cases p : p2 < v3
            · rw [if_pos p]
              simp (implicitDefEqProofs := false) (disch := omega) only [↓rI_s, ↓rV_s, ↓rI_e, ↓rV_e, zc_eq, zc_ne, zc_lt, zc_ge, zc_gt, zc_le, zlt_t, zlt_f, zle_t, zle_f, zeq_t, zeq_f, lz, zadd, zsub, zmul, zneg, zb_e0, zb_e1, boo0, boo1, ua_s, ua_n, ua_ua, up_s, u2_s, u2_f, u2_c, u2_u2, Int.natCast_add, Int.zero_add, Int.add_zero, ↓reduceIte, ne_eq, not_true_eq_false, not_false_eq_true, Int.natCast_one]
              exact fin _ _ _
            · rw [if_neg p]
              simp (implicitDefEqProofs := false) (disch := omega) only [↓rI_s, ↓rV_s, ↓rI_e, ↓rV_e, zc_eq, zc_ne, zc_lt, zc_ge, zc_gt, zc_le, zlt_t, zlt_f, zle_t, zle_f, zeq_t, zeq_f, lz, zadd, zsub, zmul, zneg, zb_e0, zb_e1, boo0, boo1, ua_s, ua_n, ua_ua, up_s, u2_s, u2_f, u2_c, u2_u2, Int.natCast_add, Int.zero_add, Int.add_zero, ↓reduceIte, ne_eq, not_true_eq_false, not_false_eq_true, Int.natCast_one]
              exact fin _ _ _
          by_cases j0 : j = 0
          · have e10 := e10 j0
            rw [if_pos j0] at f107 ⊢
            have := f107 v3
            rw [show (if v3 < p1 then v3 else p1) = v3 by split <;> omega]
            simp (implicitDefEqProofs := false) (disch := omega) only [↓rI_s, ↓rV_s, ↓rI_e, ↓rV_e, zc_eq, zc_ne, zc_lt, zc_ge, zc_gt, zc_le, zlt_t, zlt_f, zle_t, zle_f, zeq_t, zeq_f, lz, zadd, zsub, zmul, zneg, zb_e0, zb_e1, boo0, boo1, ua_s, ua_n, ua_ua, up_s, u2_s, u2_f, u2_c, u2_u2, Int.natCast_add, Int.zero_add, Int.add_zero, ↓reduceIte, ne_eq, not_true_eq_false, not_false_eq_true, Int.natCast_one, ↓k_X11_span_100]
            exact this
          · rw [if_neg j0] at f107 ⊢
            by_cases p : v3 < p1
            · rw [if_pos p]
              simp (implicitDefEqProofs := false) (disch := omega) only [↓rI_s, ↓rV_s, ↓rI_e, ↓rV_e, zc_eq, zc_ne, zc_lt, zc_ge, zc_gt, zc_le, zlt_t, zlt_f, zle_t, zle_f, zeq_t, zeq_f, lz, zadd, zsub, zmul, zneg, zb_e0, zb_e1, boo0, boo1, ua_s, ua_n, ua_ua, up_s, u2_s, u2_f, u2_c, u2_u2, Int.natCast_add, Int.zero_add, Int.add_zero, ↓reduceIte, ne_eq, not_true_eq_false, not_false_eq_true, Int.natCast_one, ↓k_X11_span_100]
              exact f107 v3
            · rw [if_neg p]
              simp (implicitDefEqProofs := false) (disch := omega) only [↓rI_s, ↓rV_s, ↓rI_e, ↓rV_e, zc_eq, zc_ne, zc_lt, zc_ge, zc_gt, zc_le, zlt_t, zlt_f, zle_t, zle_f, zeq_t, zeq_f, lz, zadd, zsub, zmul, zneg, zb_e0, zb_e1, boo0, boo1, ua_s, ua_n, ua_ua, up_s, u2_s, u2_f, u2_c, u2_u2, Int.natCast_add, Int.zero_add, Int.add_zero, ↓reduceIte, ne_eq, not_true_eq_false, not_false_eq_true, Int.natCast_one, ↓k_X11_span_100]
              exact f107 p1
      · rw [if_neg (by omega)]
        exact mOut.il fr.refl (by simp (implicitDefEqProofs := false) (disch := omega) only [↓rI_s, ↓rV_s, ↓rI_e, ↓rV_e, zc_eq, zc_ne, zc_lt, zc_ge, zc_gt, zc_le, zlt_t, zlt_f, zle_t, zle_f, zeq_t, zeq_f, lz, zadd, zsub, zmul, zneg, zb_e0, zb_e1, boo0, boo1, ua_s, ua_n, ua_ua, up_s, u2_s, u2_f, u2_c, u2_u2, Int.natCast_add, Int.zero_add, Int.add_zero, ↓reduceIte, ne_eq, not_true_eq_false, not_false_eq_true, Int.natCast_one, ↓mc_59, ↓zp_59_0, s_within, s_within_f, s_isPress, s_isPress_f, s_isWink (show 2 ≤ d by omega) hR, s_isWink_f (show 2 ≤ d by omega) hR, s_isHouse (show 2 ≤ d by omega) hR, s_isHouse_f (show 2 ≤ d by omega) hR, s_may1, s_may0, m_take (show 2 ≤ d by omega), hS, ↓k_X11_span_39, ↓k_X11_span_40, ↓p_within, ↓p_within_f])
    · rw [zb_f c1] at hS
      rw [if_neg (by omega)]
      exact mOut.il fr.refl (by simp (implicitDefEqProofs := false) (disch := omega) only [↓rI_s, ↓rV_s, ↓rI_e, ↓rV_e, zc_eq, zc_ne, zc_lt, zc_ge, zc_gt, zc_le, zlt_t, zlt_f, zle_t, zle_f, zeq_t, zeq_f, lz, zadd, zsub, zmul, zneg, zb_e0, zb_e1, boo0, boo1, ua_s, ua_n, ua_ua, up_s, u2_s, u2_f, u2_c, u2_u2, Int.natCast_add, Int.zero_add, Int.add_zero, ↓reduceIte, ne_eq, not_true_eq_false, not_false_eq_true, Int.natCast_one, ↓mc_59, ↓zp_59_0, s_within, s_within_f, s_isPress, s_isPress_f, s_isWink (show 2 ≤ d by omega) hR, s_isWink_f (show 2 ≤ d by omega) hR, s_isHouse (show 2 ≤ d by omega) hR, s_isHouse_f (show 2 ≤ d by omega) hR, s_may1, s_may0, m_take (show 2 ≤ d by omega), hS, ↓k_X11_span_39, ↓k_X11_span_40, ↓p_within])
  · rw [if_neg (by omega)]
    exact mOut.il fr.refl (by simp (implicitDefEqProofs := false) (disch := omega) only [↓rI_s, ↓rV_s, ↓rI_e, ↓rV_e, zc_eq, zc_ne, zc_lt, zc_ge, zc_gt, zc_le, zlt_t, zlt_f, zle_t, zle_f, zeq_t, zeq_f, lz, zadd, zsub, zmul, zneg, zb_e0, zb_e1, boo0, boo1, ua_s, ua_n, ua_ua, up_s, u2_s, u2_f, u2_c, u2_u2, Int.natCast_add, Int.zero_add, Int.add_zero, ↓reduceIte, ne_eq, not_true_eq_false, not_false_eq_true, Int.natCast_one, ↓mc_59, ↓zp_59_0, s_within, s_within_f, s_isPress, s_isPress_f, s_isWink (show 2 ≤ d by omega) hR, s_isWink_f (show 2 ≤ d by omega) hR, s_isHouse (show 2 ≤ d by omega) hR, s_isHouse_f (show 2 ≤ d by omega) hR, s_may1, s_may0, m_take (show 2 ≤ d by omega), ↓k_X11_span_39, ↓k_X11_span_40, ↓p_within_f])
end SP
