--DEPS 97.roomd
/-! A room as it begins. -/
theorem cnt_nth {p : Nat → Bool} : ∀ {n : Nat} {u : Int}, 0 ≤ u → u < cnt n p → ∃ k, k < n ∧ p k = true ∧ cnt k p = u
  | 0, u, h0, h1 => by
    have : cnt 0 p = 0 := rfl
    omega
  | n + 1, u, h0, h1 => by
    by_cases q : p n = true
    · rw [cnt_t q] at h1
      by_cases e : u = cnt n p
      · exact ⟨n, by omega, q, e.symm⟩
      · obtain ⟨k, k1, k2, k3⟩ := cnt_nth (n := n) h0 (show u < cnt n p by omega)
        exact ⟨k, by omega, k2, k3⟩
    · rw [cnt_f q] at h1
      obtain ⟨k, k1, k2, k3⟩ := cnt_nth (n := n) h0 h1
      exact ⟨k, by omega, k2, k3⟩
abbrev onF (D : zD) : Prop := (∀ j : Nat, j < (D.1 1).toNat → D.2 16 j < D.1 3) ∧ ∀ j : Nat, j < (D.1 2).toNat → D.2 17 j < D.1 3
def Rn (D : zD) : zR := ((D.1 0).toNat, (D.1 1).toNat, (D.1 2).toNat, D.1 3, D.1 4, D.2 14, D.2 15, D.2 17, D.2 18)
def sNw (D : zD) (j : Int) : Int := if j < 10 then D.2 16 j else if j < 20 then cnt (j - 10).toNat (fun o => decide (D.2 16 o = D.2 16 (j - 10))) else if j < 40 then 0 else if j < 45 then D.2 13 (j - 40) else 0
theorem sNw_0 {D : zD} {j : Int} (h : j < 10) : sNw D j = D.2 16 j := if_pos h
theorem sNw_1 {D : zD} {w : Int} (h0 : 0 ≤ w) (h1 : w < 10) : sNw D (10 + w) = cnt w.toNat (fun o => decide (D.2 16 o = D.2 16 w)) := by
  unfold sNw
  rw [if_neg (by omega), if_pos (by omega), show 10 + w - 10 = w by omega]
theorem sNw_2 {D : zD} {j : Int} (h0 : 20 ≤ j) (h1 : j < 40) : sNw D j = 0 := by
  unfold sNw
  rw [if_neg (by omega), if_neg (by omega), if_pos (by omega)]
theorem sNw_4 {D : zD} {h : Int} (h0 : 0 ≤ h) (h1 : h < 5) : sNw D (40 + h) = D.2 13 h := by
  unfold sNw
  rw [if_neg (by omega), if_neg (by omega), if_neg (by omega), if_pos (by omega), show 40 + h - 40 = h by omega]
theorem sNw_5 {D : zD} {j : Int} (h0 : 45 ≤ j) : sNw D j = 0 := by
  unfold sNw
  rw [if_neg (by omega), if_neg (by omega), if_neg (by omega), if_neg (by omega)]
theorem Rn_w {D : zD} (hk : dOK D) (ho : onF D) : wR (Rn D) := by
  obtain ⟨k0, k1, k2, k3, k4, k5, k6, k7⟩ := hk
  have eH : (rH (Rn D) : Int) = D.1 0 := Int.toNat_of_nonneg k0.1
  have eW : (rW (Rn D) : Int) = D.1 1 := Int.toNat_of_nonneg k1.1
  have eC : (rC (Rn D) : Int) = D.1 2 := Int.toNat_of_nonneg k2.1
  refine ⟨by omega, by omega, by omega, k3.1, k3.2, k4.1, k4.2, fun w w0 w1 => ?_, fun w w0 w1 => ?_, fun c c0 c1 => ?_, fun c c0 c1 => ?_⟩
  · have := (k6 w w0 (by omega)).1
    rw [eH]
    exact this
  · exact (k6 w w0 (by omega)).2.1
  · refine ⟨(k7 c c0 (by omega)).1.1, ?_⟩
    have := ho.2 c.toNat (by omega)
    rw [Int.toNat_of_nonneg c0] at this
    exact this
  · exact (k7 c c0 (by omega)).2
theorem sNw_N {D : zD} (hk : dOK D) (ho : onF D) : sN (Rn D) (sNw D) := by
  have hk' := hk
  obtain ⟨k0, k1, k2, k3, k4, k5, k6, k7⟩ := hk
  have eH : (rH (Rn D) : Int) = D.1 0 := Int.toNat_of_nonneg k0.1
  have eW : (rW (Rn D) : Int) = D.1 1 := Int.toNat_of_nonneg k1.1
  have mm : ∀ x : Int, many (Rn D) (sNw D) x = cnt (rW (Rn D)) (fun k => decide (D.2 16 k = x)) := fun x => cnt_cg fun k hk => by rw [sNw_0 (by omega)]
  have fe : rF (Rn D) = D.1 3 := rfl
  have pos : ∀ w : Int, 0 ≤ w → w < rW (Rn D) → 0 ≤ D.2 16 w ∧ D.2 16 w < D.1 3 := fun w w0 w1 => by
    refine ⟨(k6 w w0 (by omega)).2.2.1, ?_⟩
    have := ho.1 w.toNat (by omega)
    rw [Int.toNat_of_nonneg w0] at this
    exact this
  refine ⟨⟨fun w w0 w1 => ?_, fun w w0 w1 _ => ?_, fun x u x0 u0 u1 => ?_, fun v w v0 v1 w0 w1 hv e1 e2 => ?_, fun h h0 h1 => ?_⟩, ?_⟩
  · rw [sNw_0 (j := w) (by omega), sNw_1 w0 (by omega)]
    have p := pos w w0 w1
    have c0 := cnt_lo w.toNat (fun o => decide (D.2 16 o = D.2 16 w))
    have c1 := cnt_hi w.toNat (fun o => decide (D.2 16 o = D.2 16 w))
    rw [fe]
    omega
  · rw [sNw_1 w0 (by omega), mm, sNw_0 (j := w) (by omega)]
    have := cnt_lt (p := fun o => decide (D.2 16 o = D.2 16 w)) (k := w.toNat) (n := rW (Rn D)) (by omega) (by rw [Int.toNat_of_nonneg w0]; exact decide_eq_true rfl)
    exact this
  · rw [mm] at u1
    obtain ⟨k, q1, q2, q3⟩ := cnt_nth u0 u1
    have q2 := of_decide_eq_true q2
    refine ⟨k, by omega, by omega, ?_, ?_⟩
    · rw [sNw_0 (by omega)]; exact q2
    · rw [sNw_1 (by omega) (by omega), Int.toNat_natCast, q2]; exact q3
  · rw [sNw_0 (j := v) (by omega), sNw_0 (j := w) (by omega)] at e1
    rw [sNw_1 v0 (by omega), sNw_1 w0 (by omega), e1] at e2
    have p1 : ∀ x : Int, 0 ≤ x → D.2 16 x = D.2 16 w → (fun o : Nat => decide (D.2 16 o = D.2 16 w)) x.toNat = true := fun x x0 hx => by
      dsimp only
      rw [Int.toNat_of_nonneg x0]
      exact decide_eq_true hx
    by_cases c : v < w
    · have := cnt_lt (p := fun o : Nat => decide (D.2 16 o = D.2 16 w)) (k := v.toNat) (n := w.toNat) (by omega) (p1 v v0 e1)
      omega
    · by_cases c2 : w < v
      · have := cnt_lt (p := fun o : Nat => decide (D.2 16 o = D.2 16 w)) (k := w.toNat) (n := v.toNat) (by omega) (p1 w w0 rfl)
        omega
      · omega
  · rw [sNw_4 h0 (by omega)]
    have := k5 h h0 (by omega)
    omega
  · rw [sNw_5 (by omega), sNw_5 (by omega)]
    omega
def rmS (T : Int → Int) (n : Int) : Nat → Nat → zD → Int → zE (Int × zD)
  | 0, _, D, a => .inr (a, D)
  | m + 1, c, D, a => if sk T n a < n then bd (rmC T n (c < 60) D a) fun x => bd (sgnS T n 59 x.1) fun e => rmS T n m (c + 1) x.2 e else .inr (sk T n a, D)
def D0 (G : Nat → Int → Int) : zD := (fun j => if j = 3 then 12 else if j = 4 then 3 else 0, G)
theorem D0_ok {G : Nat → Int → Int} : dOK (D0 G) := by
  have e0 : (D0 G).1 0 = 0 := rfl
  have e1 : (D0 G).1 1 = 0 := rfl
  have e2 : (D0 G).1 2 = 0 := rfl
  have e3 : (D0 G).1 3 = 12 := rfl
  have e4 : (D0 G).1 4 = 3 := rfl
  exact ⟨by omega, by omega, by omega, by omega, by omega, fun h h0 h1 => by omega, fun h h0 h1 => by omega, fun h h0 h1 => by omega⟩
def rmA (T : Int → Int) (n : Int) (G : Nat → Int → Int) : zE zD := bd (rmS T n 601 0 (D0 G) 0) fun x => if onF x.2 then .inr x.2 else .inl (4, n)
theorem rmC_60 {T : Int → Int} {n a : Int} {m : Prop} [Decidable m] {D : zD} (hm : ¬ m) : ∃ x, rmC T n m D a = .inl x := by
  unfold rmC
  split
  · rw [if_neg (fun q => hm q.1)]; exact ⟨_, rfl⟩
  split
  · rw [if_neg (fun q => hm q.1)]; exact ⟨_, rfl⟩
  split
  · rw [if_neg (fun q => hm q.1)]; exact ⟨_, rfl⟩
  split
  · exact ⟨_, rfl⟩
  split
  · exact ⟨_, rfl⟩
  exact ⟨_, rfl⟩
theorem rmC_sk {T : Int → Int} {n a : Int} {m : Prop} [Decidable m] {D : zD} (h : a ≤ n) : rmC T n m D (sk T n a) = rmC T n m D a := by
  unfold rmC
  have e1 : sb T n (sk T n a) = sb T n a := sk_sk h
  have e2 : se T n (sk T n a) = se T n a := by
    show gE (qL' T) n (sk T n (sk T n a)) = gE (qL' T) n (sk T n a)
    rw [sk_sk h]
  rw [e1, e2]
section RE
variable {d : Nat} {I : Nat → Nat → Int} {A : Nat → Int → Int} {W : qWt} {T : Int → Int} {n a : Int} {D : zD}
theorem c_rmLoop : ∀ (m c : Nat) (D : zD) (a : Int) (I : Nat → Nat → Int) (A : Nat → Int → Int), 6 ≤ d → (n - a).toNat < m → c ≤ 60 → cTx T n a I A → cD D I A → dOK D → match rmS T n m c D a with
    | .inl (k, p) => ∃ I' A', fi dK I I' ∧ fr dL A A' ∧ I' 3 6 = k ∧ I' 3 7 = p ∧ q_run qm_X6_readFrom (q_call q_MT d) 6 [.ref 12, .ref 3, .int (zI c)] [] (zM I A W) = some (.inl (some (.int (zI 0))), zM I' A' W)
    | .inr (_, D') => ∃ I' A' l2, fi dK I I' ∧ fr dL A A' ∧ I' 3 7 = I 3 7 ∧ cD D' I' A' ∧ dOK D' ∧ q_run qm_X6_readFrom (q_call q_MT d) 6 [.ref 12, .ref 3, .int (zI c)] [] (zM I A W) = q_run qm_X6_readFrom (q_call q_MT d) 56 [.ref 12, .ref 3, l2] [] (zM I' A' W) := by
  intro m
  induction m with
  | zero => intro c D a I A _ hm; omega
  | succ m ih =>
    intro c D a I A hd hm hc h hD hk
    have e := c_peek (W := W) (show 1 ≤ d by omega) h
    have han := h.2.2.2.2.2.1
    have ha0 := h.2.2.2.2.1
    have sb := sk_b (T := T) han
    have tb := h.2.1 (sk T n a)
    have h' : cTx T n (sk T n a) (u2 (u2 I 3 3 (sk T n a)) 3 4 (sk T n a)) A := h.u (by rw [u2_f (by decide), u2_f (by decide)]) (by rw [u2_f (by decide), u2_s]) (by omega) sb.2
    have fI0 : fi xK I (u2 (u2 I 3 3 (sk T n a)) 3 4 (sk T n a)) := (fi.refl.f rfl).f rfl
    have fI : fi dK I (u2 (u2 I 3 3 (sk T n a)) 3 4 (sk T n a)) := fI0.wd rfl
    have f7 : u2 (u2 I 3 3 (sk T n a)) 3 4 (sk T n a) 3 7 = I 3 7 := by rw [u2_f (by decide), u2_f (by decide)]
    unfold rmS
    by_cases q : sk T n a < n
    · rw [if_pos q]
      rw [if_pos q] at e
      have e1 := c_readClause (W := W) (d := d) (m := c < 60) (by omega) h' (hD.k fI0) hk
      rw [rmC_sk han] at e1
      rcases hq : rmC T n (c < 60) D a with ⟨k, p⟩ | ⟨e2, D2⟩
      · rw [hq] at e1
        obtain ⟨I1, A1, x1, x2, x3, x4, x5⟩ := e1
        refine ⟨I1, A1, fI.tr x1, x2, x3, x4, ?_⟩
        rw [k_X6_readFrom_6]
        by_cases c6 : c < 60
        · rw [zb_t c6] at x5
          simp (implicitDefEqProofs := false) (disch := omega) only [↓rI_s, ↓rV_s, ↓rI_e, ↓rV_e, zc_eq, zc_ne, zc_lt, zc_ge, zc_gt, zc_le, zlt_t, zlt_f, zle_t, zle_f, zeq_t, zeq_f, lz, zadd, zsub, zmul, zneg, zb_e0, zb_e1, boo0, boo1, ua_s, ua_n, ua_ua, up_s, u2_s, u2_f, u2_c, u2_u2, Int.natCast_add, Int.zero_add, Int.add_zero, ↓reduceIte, ne_eq, not_true_eq_false, not_false_eq_true, Int.natCast_one, ↓mc_3, ↓cI e, ↓k_X6_readFrom_33, ↓mc_12, ↓cI x5, ↓k_X6_readFrom_48]
        · rw [zb_f c6] at x5
          simp (implicitDefEqProofs := false) (disch := omega) only [↓rI_s, ↓rV_s, ↓rI_e, ↓rV_e, zc_eq, zc_ne, zc_lt, zc_ge, zc_gt, zc_le, zlt_t, zlt_f, zle_t, zle_f, zeq_t, zeq_f, lz, zadd, zsub, zmul, zneg, zb_e0, zb_e1, boo0, boo1, ua_s, ua_n, ua_ua, up_s, u2_s, u2_f, u2_c, u2_u2, Int.natCast_add, Int.zero_add, Int.add_zero, ↓reduceIte, ne_eq, not_true_eq_false, not_false_eq_true, Int.natCast_one, ↓mc_3, ↓cI e, ↓k_X6_readFrom_33, ↓mc_12, ↓cI x5, ↓k_X6_readFrom_48]
      · have c6 : c < 60 := by
          refine Decidable.byContradiction fun c6 => ?_
          obtain ⟨x, hx⟩ := rmC_60 (T := T) (n := n) (a := a) (D := D) c6
          rw [hq] at hx
          cases hx
        rw [hq, zb_t c6] at e1
        obtain ⟨I1, A1, x1, x2, x3, x4, x5, x6⟩ := e1
        have r1 := rmC_r han hk hq
        have e3 := c_sign (c := 59) (W := W) (d := d) (by omega) x3 (by omega)
        show match bd (sgnS T n 59 e2) (fun e => rmS T n m (c + 1) D2 e) with
          | .inl (k, p) => _
          | .inr (_, D') => _
        rcases hq3 : sgnS T n 59 e2 with ⟨k, p3⟩ | e4
        · rw [hq3] at e3
          obtain ⟨I2, z1, z2, z3, z4⟩ := e3
          refine ⟨I2, A1, (fI.tr x1).tr (z1.wd rfl), x2, z2, z3, ?_⟩
          rw [k_X6_readFrom_6]
          simp (implicitDefEqProofs := false) (disch := omega) only [↓rI_s, ↓rV_s, ↓rI_e, ↓rV_e, zc_eq, zc_ne, zc_lt, zc_ge, zc_gt, zc_le, zlt_t, zlt_f, zle_t, zle_f, zeq_t, zeq_f, lz, zadd, zsub, zmul, zneg, zb_e0, zb_e1, boo0, boo1, ua_s, ua_n, ua_ua, up_s, u2_s, u2_f, u2_c, u2_u2, Int.natCast_add, Int.zero_add, Int.add_zero, ↓reduceIte, ne_eq, not_true_eq_false, not_false_eq_true, Int.natCast_one, ↓mc_3, ↓cI e, ↓k_X6_readFrom_33, ↓mc_12, ↓cI x6, ↓cI z4, ↓k_X6_readFrom_48]
        · rw [hq3] at e3
          obtain ⟨I2, z1, z2, z3, z4, z5⟩ := e3
          have r3 := sgnS_r (by omega) hq3
          have y := ih (c + 1) D2 e4 I2 A1 (by omega) (by omega) (by omega) z2 (x5.k z1) r1.2.2
          have er : q_run qm_X6_readFrom (q_call q_MT d) 6 [.ref 12, .ref 3, .int (zI c)] [] (zM I A W) = q_run qm_X6_readFrom (q_call q_MT d) 6 [.ref 12, .ref 3, .int (zI ((c + 1 : Nat) : Int))] [] (zM I2 A1 W) := by
            rw [k_X6_readFrom_6]
            simp (implicitDefEqProofs := false) (disch := omega) only [↓rI_s, ↓rV_s, ↓rI_e, ↓rV_e, zc_eq, zc_ne, zc_lt, zc_ge, zc_gt, zc_le, zlt_t, zlt_f, zle_t, zle_f, zeq_t, zeq_f, lz, zadd, zsub, zmul, zneg, zb_e0, zb_e1, boo0, boo1, ua_s, ua_n, ua_ua, up_s, u2_s, u2_f, u2_c, u2_u2, Int.natCast_add, Int.zero_add, Int.add_zero, ↓reduceIte, ne_eq, not_true_eq_false, not_false_eq_true, Int.natCast_one, ↓mc_3, ↓cI e, ↓k_X6_readFrom_33, ↓mc_12, ↓cI x6, ↓cI z5]
          rw [er]
          show match rmS T n m (c + 1) D2 e4 with
            | .inl (k, p) => _
            | .inr (_, D') => _
          have fJ : fi dK I I2 := (fI.tr x1).tr (z1.wd rfl)
          rcases hs : rmS T n m (c + 1) D2 e4 with ⟨k, p⟩ | ⟨e5, D3⟩
          · rw [hs] at y
            obtain ⟨I3, A3, w1, w2, w3, w4, w5⟩ := y
            exact ⟨I3, A3, fJ.tr w1, x2.tr w2, w3, w4, w5⟩
          · rw [hs] at y
            obtain ⟨I3, A3, l2, w1, w2, w3, w4, w5, w6⟩ := y
            exact ⟨I3, A3, l2, fJ.tr w1, x2.tr w2, w3.trans (z4.trans (x4.trans f7)), w4, w5, w6⟩
    · rw [if_neg q]
      rw [if_neg q] at e
      refine ⟨u2 (u2 I 3 3 (sk T n a)) 3 4 (sk T n a), A, .int (zI c), fI, fr.refl, f7, hD.k fI0, hk, ?_⟩
      rw [k_X6_readFrom_6]
      simp (implicitDefEqProofs := false) (disch := omega) only [↓rI_s, ↓rV_s, ↓rI_e, ↓rV_e, zc_eq, zc_ne, zc_lt, zc_ge, zc_gt, zc_le, zlt_t, zlt_f, zle_t, zle_f, zeq_t, zeq_f, lz, zadd, zsub, zmul, zneg, zb_e0, zb_e1, boo0, boo1, ua_s, ua_n, ua_ua, up_s, u2_s, u2_f, u2_c, u2_u2, Int.natCast_add, Int.zero_add, Int.add_zero, ↓reduceIte, ne_eq, not_true_eq_false, not_false_eq_true, Int.natCast_one, ↓mc_3, ↓cI e]
theorem c_allOnFelt (hd : 1 ≤ d) (hD : cD D I A) (hk : dOK D) : q_call q_MT d 86 [.ref 12] (zM I A W) = some (.inl (some (.int (zI (zb (onF D))))), zM I A W) := by
  obtain ⟨d, rfl⟩ : ∃ e, d = e + 1 := ⟨d - 1, by omega⟩
  obtain ⟨k0, k1, k2, k3, k4, k5, k6, k7⟩ := hk
  have j1 := hD.1 1 (by decide)
  have j2 := hD.1 2 (by decide)
  have j3 := hD.1 3 (by decide)
  have g16 := hD.2 16 (by decide) (by decide)
  have g17 := hD.2 17 (by decide) (by decide)
  obtain ⟨N1, hN1⟩ := Int.eq_ofNat_of_zero_le k1.1
  obtain ⟨N2, hN2⟩ := Int.eq_ofNat_of_zero_le k2.1
  rw [cl_X6_allOnFelt]
  simp (implicitDefEqProofs := false) (disch := omega) only [↓rI_s, ↓rV_s, ↓rI_e, ↓rV_e, zc_eq, zc_ne, zc_lt, zc_ge, zc_gt, zc_le, zlt_t, zlt_f, zle_t, zle_f, zeq_t, zeq_f, lz, zadd, zsub, zmul, zneg, zb_e0, zb_e1, boo0, boo1, ua_s, ua_n, ua_ua, up_s, u2_s, u2_f, u2_c, u2_u2, Int.natCast_add, Int.zero_add, Int.add_zero, ↓reduceIte, ne_eq, not_true_eq_false, not_false_eq_true, Int.natCast_one, ↓k_X6_allOnFelt_0]
  rw [hN1] at j1 k1 k6
  rw [hN2] at j2 k2 k7
  have t1 : (D.1 1).toNat = N1 := by omega
  have t2 : (D.1 2).toNat = N2 := by omega
  refine lp_x (fun j (_ : Unit) => q_run qm_X6_allOnFelt (q_call q_MT d) 2 [.ref 12, .int (zI j)] [] (zM I A W)) (fun j _ => ∀ i : Nat, i < j → D.2 16 i < D.1 3) (fun r => r = _) N1 ?_ ?_ 0 () (by omega) (fun i hi => absurd hi (by omega))
  · intro _ h1
    rw [k_X6_allOnFelt_2]
    simp (implicitDefEqProofs := false) (disch := omega) only [↓rI_s, ↓rV_s, ↓rI_e, ↓rV_e, zc_eq, zc_ne, zc_lt, zc_ge, zc_gt, zc_le, zlt_t, zlt_f, zle_t, zle_f, zeq_t, zeq_f, lz, zadd, zsub, zmul, zneg, zb_e0, zb_e1, boo0, boo1, ua_s, ua_n, ua_ua, up_s, u2_s, u2_f, u2_c, u2_u2, Int.natCast_add, Int.zero_add, Int.add_zero, ↓reduceIte, ne_eq, not_true_eq_false, not_false_eq_true, Int.natCast_one, ↓zg_12_1, j1, Int.le_refl]
    refine lp_x (fun j (_ : Unit) => q_run qm_X6_allOnFelt (q_call q_MT d) 33 [.ref 12, .int (zI j)] [] (zM I A W)) (fun j _ => ∀ i : Nat, i < j → D.2 17 i < D.1 3) (fun r => r = _) N2 ?_ ?_ 0 () (by omega) (fun i hi => absurd hi (by omega))
    · intro _ h2
      rw [k_X6_allOnFelt_33, zb_t ⟨by rw [t1]; exact h1, by rw [t2]; exact h2⟩]
      simp (implicitDefEqProofs := false) (disch := omega) only [↓rI_s, ↓rV_s, ↓rI_e, ↓rV_e, zc_eq, zc_ne, zc_lt, zc_ge, zc_gt, zc_le, zlt_t, zlt_f, zle_t, zle_f, zeq_t, zeq_f, lz, zadd, zsub, zmul, zneg, zb_e0, zb_e1, boo0, boo1, ua_s, ua_n, ua_ua, up_s, u2_s, u2_f, u2_c, u2_u2, Int.natCast_add, Int.zero_add, Int.add_zero, ↓reduceIte, ne_eq, not_true_eq_false, not_false_eq_true, Int.natCast_one, ↓zg_12_2, j2, Int.le_refl]
    · intro j _ hj h2
      have b := (k7 j (by omega) (by omega)).1
      rw [k_X6_allOnFelt_33]
      by_cases c : D.2 17 j < D.1 3
      · refine .inr ⟨(), fun i hi => ?_, ?_⟩
        · by_cases e : i = j
          · subst e; exact c
          · exact h2 i (by omega)
        · simp (implicitDefEqProofs := false) (disch := omega) only [↓rI_s, ↓rV_s, ↓rI_e, ↓rV_e, zc_eq, zc_ne, zc_lt, zc_ge, zc_gt, zc_le, zlt_t, zlt_f, zle_t, zle_f, zeq_t, zeq_f, lz, zadd, zsub, zmul, zneg, zb_e0, zb_e1, boo0, boo1, ua_s, ua_n, ua_ua, up_s, u2_s, u2_f, u2_c, u2_u2, Int.natCast_add, Int.zero_add, Int.add_zero, ↓reduceIte, ne_eq, not_true_eq_false, not_false_eq_true, Int.natCast_one, ↓zg_12_2, j2, ↓zg_12_9, zl_17, g17, ↓zg_12_3, j3]
      · refine .inl ?_
        rw [zb_f (fun q => c (q.2 j (by omega)))]
        simp (implicitDefEqProofs := false) (disch := omega) only [↓rI_s, ↓rV_s, ↓rI_e, ↓rV_e, zc_eq, zc_ne, zc_lt, zc_ge, zc_gt, zc_le, zlt_t, zlt_f, zle_t, zle_f, zeq_t, zeq_f, lz, zadd, zsub, zmul, zneg, zb_e0, zb_e1, boo0, boo1, ua_s, ua_n, ua_ua, up_s, u2_s, u2_f, u2_c, u2_u2, Int.natCast_add, Int.zero_add, Int.add_zero, ↓reduceIte, ne_eq, not_true_eq_false, not_false_eq_true, Int.natCast_one, ↓zg_12_2, j2, ↓zg_12_9, zl_17, g17, ↓zg_12_3, j3]
  · intro j _ hj h1
    have b := (k6 j (by omega) (by omega)).2.2
    rw [k_X6_allOnFelt_2]
    by_cases c : D.2 16 j < D.1 3
    · refine .inr ⟨(), fun i hi => ?_, ?_⟩
      · by_cases e : i = j
        · subst e; exact c
        · exact h1 i (by omega)
      · simp (implicitDefEqProofs := false) (disch := omega) only [↓rI_s, ↓rV_s, ↓rI_e, ↓rV_e, zc_eq, zc_ne, zc_lt, zc_ge, zc_gt, zc_le, zlt_t, zlt_f, zle_t, zle_f, zeq_t, zeq_f, lz, zadd, zsub, zmul, zneg, zb_e0, zb_e1, boo0, boo1, ua_s, ua_n, ua_ua, up_s, u2_s, u2_f, u2_c, u2_u2, Int.natCast_add, Int.zero_add, Int.add_zero, ↓reduceIte, ne_eq, not_true_eq_false, not_false_eq_true, Int.natCast_one, ↓zg_12_1, j1, ↓zg_12_8, zl_16, g16, ↓zg_12_3, j3]
    · refine .inl ?_
      rw [zb_f (fun q => c (q.1 j (by omega)))]
      simp (implicitDefEqProofs := false) (disch := omega) only [↓rI_s, ↓rV_s, ↓rI_e, ↓rV_e, zc_eq, zc_ne, zc_lt, zc_ge, zc_gt, zc_le, zlt_t, zlt_f, zle_t, zle_f, zeq_t, zeq_f, lz, zadd, zsub, zmul, zneg, zb_e0, zb_e1, boo0, boo1, ua_s, ua_n, ua_ua, up_s, u2_s, u2_f, u2_c, u2_u2, Int.natCast_add, Int.zero_add, Int.add_zero, ↓reduceIte, ne_eq, not_true_eq_false, not_false_eq_true, Int.natCast_one, ↓zg_12_1, j1, ↓zg_12_8, zl_16, g16, ↓zg_12_3, j3]
end RE
