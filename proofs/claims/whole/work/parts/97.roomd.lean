--DEPS 96.roomc
section RD2
variable {d : Nat} {I I' : Nat → Nat → Int} {A : Nat → Int → Int} {W : qWt} {T : Int → Int} {n a : Int} {D : zD}
theorem c_wq1 {b e : Int} {i : Nat} (hi : i < 19) (hd : 1 ≤ d) (h : cTx T n e I A) (h4 : I 3 4 = b) (hb : 0 ≤ b ∧ b ≤ e) (w : wq T b e i) : q_call q_MT d 110 [.ref 3, .float (UInt32.ofNat i)] (zM I A W) = some (.inl (some (.int (zI 1))), zM I A W) := by
  have := c_wordIs (W := W) hd (strs_s ⟨i, hi⟩) (okS ⟨i, hi⟩) h h4 hb
  rw [zb_t w] at this
  exact this
theorem c_wq0 {b e : Int} {i : Nat} (hi : i < 19) (hd : 1 ≤ d) (h : cTx T n e I A) (h4 : I 3 4 = b) (hb : 0 ≤ b ∧ b ≤ e) (w : ¬ wq T b e i) : q_call q_MT d 110 [.ref 3, .float (UInt32.ofNat i)] (zM I A W) = some (.inl (some (.int (zI 0))), zM I A W) := by
  have := c_wordIs (W := W) hd (strs_s ⟨i, hi⟩) (okS ⟨i, hi⟩) h h4 hb
  rw [zb_f w] at this
  exact this
theorem c_allow1 {b : Int} (hd : 2 ≤ d) (h4 : I 3 4 = b) : q_call q_MT d 111 [.ref 3, .int (zI 1)] (zM I A W) = some (.inl (some (.int (zI 1))), zM I A W) := by
  have := c_allow (W := W) (I := I) (A := A) (p := True) hd h4
  rw [if_pos trivial, zb_t trivial] at this
  exact this
theorem c_allow0 {b : Int} (hd : 2 ≤ d) (h4 : I 3 4 = b) : q_call q_MT d 111 [.ref 3, .int (zI 0)] (zM I A W) = some (.inl (some (.int (zI 0))), zM (u2 (u2 I 3 6 3) 3 7 b) A W) := by
  have := c_allow (W := W) (I := I) (A := A) (p := False) hd h4
  rw [if_neg id, zb_f id] at this
  exact this
theorem cE.up {β : Type} {K : List (Nat × Nat)} {L : List Nat} {I1 : Nat → Nat → Int} {A1 : Nat → Int → Int} {r r' : qR} {P : β → (Nat → Nat → Int) → (Nat → Int → Int) → Prop} {x : zE (Int × β)} (h : cE T n K L I1 A1 W r' P x) (f : fi K I I1) (g : fr L A A1) (e7 : I1 3 7 = I 3 7) (e : ∀ (v : Int) (h : qH), (v = 0 ∨ v = 1) → r' = some (.inl (some (.int (zI v))), h) → r = some (.inl (some (.int (zI v))), h)) : cE T n K L I A W r P x := by
  rcases x with ⟨k, p⟩ | ⟨e', v⟩
  · obtain ⟨I2, A2, y1, y2, y3, y4, y5⟩ := h
    exact cE.bad I2 A2 (f.tr y1) (g.tr y2) y3 y4 (e 0 _ (.inl rfl) y5)
  · obtain ⟨I2, A2, y1, y2, y3, y4, y5, y6⟩ := h
    exact cE.ok I2 A2 (f.tr y1) (g.tr y2) y3 (y4.trans e7) y5 (e 1 _ (.inr rfl) y6)
theorem c_readClause {m : Prop} [Decidable m] (hd : 5 ≤ d) (h : cTx T n a I A) (hD : cD D I A) (hk : dOK D) : cE T n dK dL I A W (q_call q_MT d 80 [.ref 12, .ref 3, .int (zI (zb m))] (zM I A W)) cD (rmC T n m D a) := by
  obtain ⟨d, rfl⟩ : ∃ e, d = e + 1 := ⟨d - 1, by omega⟩
  have han := h.2.2.2.2.2.1
  have ha0 := h.2.2.2.2.1
  have hn6 := h.2.2.2.2.2.2
  have b1 := sk_b (T := T) han
  have b2 := gE_b (q := qL' T) b1.2
  have ew := c_word (W := W) (d := d) (by omega) h
  have k0 := hk.1
  have k1 := hk.2.1
  have k2 := hk.2.2.1
  unfold rmC
  by_cases hw : gE (qL' T) n (sk T n a) = sk T n a
  · rw [if_pos hw] at ew
    obtain ⟨I1, x1, x2, x3, x4⟩ := ew
    have hw' : ∀ i : Nat, i < 19 → ¬ wq T (sb T n a) (se T n a) i := fun i hi => by
      show ¬ wq T (sk T n a) (gE (qL' T) n (sk T n a)) i
      rw [hw]
      exact wq_e hi
    rw [if_neg (hw' 0 (by decide)), if_neg (hw' 1 (by decide)), if_neg (hw' 2 (by decide)), if_neg (hw' 3 (by decide)), if_neg (hw' 4 (by decide))]
    refine cE.bad I1 A (x1.wd rfl) fr.refl x2 x3 ?_
    rw [cl_X6_readClause]
    simp (implicitDefEqProofs := false) (disch := omega) only [↓rI_s, ↓rV_s, ↓rI_e, ↓rV_e, zc_eq, zc_ne, zc_lt, zc_ge, zc_gt, zc_le, zlt_t, zlt_f, zle_t, zle_f, zeq_t, zeq_f, lz, zadd, zsub, zmul, zneg, zb_e0, zb_e1, boo0, boo1, ua_s, ua_n, ua_ua, up_s, u2_s, u2_f, u2_c, u2_u2, Int.natCast_add, Int.zero_add, Int.add_zero, ↓reduceIte, ne_eq, not_true_eq_false, not_false_eq_true, Int.natCast_one, ↓k_X6_readClause_0, ↓mc_3, ↓cI x4]
  · rw [if_neg hw] at ew
    obtain ⟨I1, x1, x2, x3, x4, x5, x6⟩ := ew
    have hD1 := hD.k x1
    have j0 := hD1.1 0 (by decide)
    have j1 := hD1.1 1 (by decide)
    have j2 := hD1.1 2 (by decide)
    have hb : 0 ≤ sk T n a ∧ sk T n a ≤ gE (qL' T) n (sk T n a) := ⟨by omega, b2.1⟩
    have a1 := c_allow1 (W := W) (A := A) (d := d) (by omega) x3
    have a0 := c_allow0 (W := W) (A := A) (d := d) (by omega) x3
    have fb : fi dK I (u2 (u2 I1 3 6 3) 3 7 (sk T n a)) := ((x1.wd rfl).f rfl).f rfl
    have bad3 : ∀ {r : qR}, r = some (.inl (some (.int (zI 0))), zM (u2 (u2 I1 3 6 3) 3 7 (sk T n a)) A W) → cE T n dK dL I A W r cD (.inl (3, sk T n a)) := fun {r} e => cE.bad _ A fb fr.refl (by rw [u2_f (by decide), u2_s]) u2_s e
    have fc : fi dK I I1 := x1.wd rfl
    have t1 : ∀ i : Nat, i < 19 → wq T (sk T n a) (gE (qL' T) n (sk T n a)) i → q_call q_MT d 110 [.ref 3, .float (UInt32.ofNat i)] (zM I1 A W) = some (.inl (some (.int (zI 1))), zM I1 A W) := fun i hi w => c_wq1 hi (by omega) x2 x3 hb w
    have t0 : ∀ i : Nat, i < 19 → ¬ wq T (sk T n a) (gE (qL' T) n (sk T n a)) i → q_call q_MT d 110 [.ref 3, .float (UInt32.ofNat i)] (zM I1 A W) = some (.inl (some (.int (zI 0))), zM I1 A W) := fun i hi w => c_wq0 hi (by omega) x2 x3 hb w
    by_cases w0 : wq T (sk T n a) (gE (qL' T) n (sk T n a)) 0
    · rw [if_pos w0]
      have v0 : q_call q_MT d 110 [.ref 3, .float 0] (zM I1 A W) = _ := t1 0 (by decide) w0
      by_cases c : m ∧ D.1 0 < 5
      · rw [if_pos c, zb_t c.1]
        refine (c_readHouse (W := W) (d := d) (by omega) x2 hD1 hk c.2).up fc fr.refl x5 (fun v h hv e => ?_)
        rw [cl_X6_readClause]
        rcases hv with rfl | rfl <;> simp (implicitDefEqProofs := false) (disch := omega) only [↓rI_s, ↓rV_s, ↓rI_e, ↓rV_e, zc_eq, zc_ne, zc_lt, zc_ge, zc_gt, zc_le, zlt_t, zlt_f, zle_t, zle_f, zeq_t, zeq_f, lz, zadd, zsub, zmul, zneg, zb_e0, zb_e1, boo0, boo1, ua_s, ua_n, ua_ua, up_s, u2_s, u2_f, u2_c, u2_u2, Int.natCast_add, Int.zero_add, Int.add_zero, ↓reduceIte, ne_eq, not_true_eq_false, not_false_eq_true, Int.natCast_one, ↓k_X6_readClause_0, ↓mc_3, ↓cI x6, ↓cI v0, ↓zg_12_0, j0, ↓k_X6_readClause_36, ↓cI a1, ↓mc_12, ↓cI e, ↓k_X6_readClause_54, ↓k_X6_readClause_55]
      · rw [if_neg c]
        refine bad3 ?_
        rw [cl_X6_readClause]
        by_cases hm : m
        · rw [zb_t hm]
          have : ¬ D.1 0 < 5 := fun q => c ⟨hm, q⟩
          simp (implicitDefEqProofs := false) (disch := omega) only [↓rI_s, ↓rV_s, ↓rI_e, ↓rV_e, zc_eq, zc_ne, zc_lt, zc_ge, zc_gt, zc_le, zlt_t, zlt_f, zle_t, zle_f, zeq_t, zeq_f, lz, zadd, zsub, zmul, zneg, zb_e0, zb_e1, boo0, boo1, ua_s, ua_n, ua_ua, up_s, u2_s, u2_f, u2_c, u2_u2, Int.natCast_add, Int.zero_add, Int.add_zero, ↓reduceIte, ne_eq, not_true_eq_false, not_false_eq_true, Int.natCast_one, ↓k_X6_readClause_0, ↓mc_3, ↓cI x6, ↓cI v0, ↓zg_12_0, j0, ↓k_X6_readClause_35, ↓k_X6_readClause_36, ↓cI a0, ↓k_X6_readClause_54, ↓k_X6_readClause_55]
        · rw [zb_f hm]
          simp (implicitDefEqProofs := false) (disch := omega) only [↓rI_s, ↓rV_s, ↓rI_e, ↓rV_e, zc_eq, zc_ne, zc_lt, zc_ge, zc_gt, zc_le, zlt_t, zlt_f, zle_t, zle_f, zeq_t, zeq_f, lz, zadd, zsub, zmul, zneg, zb_e0, zb_e1, boo0, boo1, ua_s, ua_n, ua_ua, up_s, u2_s, u2_f, u2_c, u2_u2, Int.natCast_add, Int.zero_add, Int.add_zero, ↓reduceIte, ne_eq, not_true_eq_false, not_false_eq_true, Int.natCast_one, ↓k_X6_readClause_0, ↓mc_3, ↓cI x6, ↓cI v0, ↓zg_12_0, j0, ↓k_X6_readClause_35, ↓k_X6_readClause_36, ↓cI a0, ↓k_X6_readClause_54, ↓k_X6_readClause_55]
    · have v0 : q_call q_MT d 110 [.ref 3, .float 0] (zM I1 A W) = _ := t0 0 (by decide) w0
      rw [if_neg w0]
      by_cases w1 : wq T (sk T n a) (gE (qL' T) n (sk T n a)) 1
      · rw [if_pos w1]
        have v1 : q_call q_MT d 110 [.ref 3, .float 1] (zM I1 A W) = _ := t1 1 (by decide) w1
        by_cases c : m ∧ D.1 1 < 10
        · rw [if_pos c, zb_t c.1]
          refine (c_readWink (W := W) (d := d) (by omega) x2 hD1 hk c.2).up fc fr.refl x5 (fun v h hv e => ?_)
          rw [cl_X6_readClause]
          rcases hv with rfl | rfl <;> simp (implicitDefEqProofs := false) (disch := omega) only [↓rI_s, ↓rV_s, ↓rI_e, ↓rV_e, zc_eq, zc_ne, zc_lt, zc_ge, zc_gt, zc_le, zlt_t, zlt_f, zle_t, zle_f, zeq_t, zeq_f, lz, zadd, zsub, zmul, zneg, zb_e0, zb_e1, boo0, boo1, ua_s, ua_n, ua_ua, up_s, u2_s, u2_f, u2_c, u2_u2, Int.natCast_add, Int.zero_add, Int.add_zero, ↓reduceIte, ne_eq, not_true_eq_false, not_false_eq_true, Int.natCast_one, ↓k_X6_readClause_0, ↓mc_3, ↓cI x6, ↓cI v0, ↓cI v1, ↓zg_12_1, j1, ↓k_X6_readClause_84, ↓cI a1, ↓mc_12, ↓cI e, ↓k_X6_readClause_102, ↓k_X6_readClause_103]
        · rw [if_neg c]
          refine bad3 ?_
          rw [cl_X6_readClause]
          by_cases hm : m
          · rw [zb_t hm]
            have : ¬ D.1 1 < 10 := fun q => c ⟨hm, q⟩
            simp (implicitDefEqProofs := false) (disch := omega) only [↓rI_s, ↓rV_s, ↓rI_e, ↓rV_e, zc_eq, zc_ne, zc_lt, zc_ge, zc_gt, zc_le, zlt_t, zlt_f, zle_t, zle_f, zeq_t, zeq_f, lz, zadd, zsub, zmul, zneg, zb_e0, zb_e1, boo0, boo1, ua_s, ua_n, ua_ua, up_s, u2_s, u2_f, u2_c, u2_u2, Int.natCast_add, Int.zero_add, Int.add_zero, ↓reduceIte, ne_eq, not_true_eq_false, not_false_eq_true, Int.natCast_one, ↓k_X6_readClause_0, ↓mc_3, ↓cI x6, ↓cI v0, ↓cI v1, ↓zg_12_1, j1, ↓k_X6_readClause_83, ↓k_X6_readClause_84, ↓cI a0, ↓k_X6_readClause_102, ↓k_X6_readClause_103]
          · rw [zb_f hm]
            simp (implicitDefEqProofs := false) (disch := omega) only [↓rI_s, ↓rV_s, ↓rI_e, ↓rV_e, zc_eq, zc_ne, zc_lt, zc_ge, zc_gt, zc_le, zlt_t, zlt_f, zle_t, zle_f, zeq_t, zeq_f, lz, zadd, zsub, zmul, zneg, zb_e0, zb_e1, boo0, boo1, ua_s, ua_n, ua_ua, up_s, u2_s, u2_f, u2_c, u2_u2, Int.natCast_add, Int.zero_add, Int.add_zero, ↓reduceIte, ne_eq, not_true_eq_false, not_false_eq_true, Int.natCast_one, ↓k_X6_readClause_0, ↓mc_3, ↓cI x6, ↓cI v0, ↓cI v1, ↓zg_12_1, j1, ↓k_X6_readClause_83, ↓k_X6_readClause_84, ↓cI a0, ↓k_X6_readClause_102, ↓k_X6_readClause_103]
      · have v1 : q_call q_MT d 110 [.ref 3, .float 1] (zM I1 A W) = _ := t0 1 (by decide) w1
        rw [if_neg w1]
        by_cases w2 : wq T (sk T n a) (gE (qL' T) n (sk T n a)) 2
        · rw [if_pos w2]
          have v2 : q_call q_MT d 110 [.ref 3, .float 2] (zM I1 A W) = _ := t1 2 (by decide) w2
          by_cases c : m ∧ D.1 2 < 4
          · rw [if_pos c, zb_t c.1]
            refine (c_readCup (W := W) (d := d) (by omega) x2 hD1 hk c.2).up fc fr.refl x5 (fun v h hv e => ?_)
            rw [cl_X6_readClause]
            rcases hv with rfl | rfl <;> simp (implicitDefEqProofs := false) (disch := omega) only [↓rI_s, ↓rV_s, ↓rI_e, ↓rV_e, zc_eq, zc_ne, zc_lt, zc_ge, zc_gt, zc_le, zlt_t, zlt_f, zle_t, zle_f, zeq_t, zeq_f, lz, zadd, zsub, zmul, zneg, zb_e0, zb_e1, boo0, boo1, ua_s, ua_n, ua_ua, up_s, u2_s, u2_f, u2_c, u2_u2, Int.natCast_add, Int.zero_add, Int.add_zero, ↓reduceIte, ne_eq, not_true_eq_false, not_false_eq_true, Int.natCast_one, ↓k_X6_readClause_0, ↓mc_3, ↓cI x6, ↓cI v0, ↓cI v1, ↓cI v2, ↓zg_12_2, j2, ↓k_X6_readClause_131, ↓cI a1, ↓mc_12, ↓cI e, ↓k_X6_readClause_149, ↓k_X6_readClause_150]
          · rw [if_neg c]
            refine bad3 ?_
            rw [cl_X6_readClause]
            by_cases hm : m
            · rw [zb_t hm]
              have : ¬ D.1 2 < 4 := fun q => c ⟨hm, q⟩
              simp (implicitDefEqProofs := false) (disch := omega) only [↓rI_s, ↓rV_s, ↓rI_e, ↓rV_e, zc_eq, zc_ne, zc_lt, zc_ge, zc_gt, zc_le, zlt_t, zlt_f, zle_t, zle_f, zeq_t, zeq_f, lz, zadd, zsub, zmul, zneg, zb_e0, zb_e1, boo0, boo1, ua_s, ua_n, ua_ua, up_s, u2_s, u2_f, u2_c, u2_u2, Int.natCast_add, Int.zero_add, Int.add_zero, ↓reduceIte, ne_eq, not_true_eq_false, not_false_eq_true, Int.natCast_one, ↓k_X6_readClause_0, ↓mc_3, ↓cI x6, ↓cI v0, ↓cI v1, ↓cI v2, ↓zg_12_2, j2, ↓k_X6_readClause_130, ↓k_X6_readClause_131, ↓cI a0, ↓k_X6_readClause_149, ↓k_X6_readClause_150]
            · rw [zb_f hm]
              simp (implicitDefEqProofs := false) (disch := omega) only [↓rI_s, ↓rV_s, ↓rI_e, ↓rV_e, zc_eq, zc_ne, zc_lt, zc_ge, zc_gt, zc_le, zlt_t, zlt_f, zle_t, zle_f, zeq_t, zeq_f, lz, zadd, zsub, zmul, zneg, zb_e0, zb_e1, boo0, boo1, ua_s, ua_n, ua_ua, up_s, u2_s, u2_f, u2_c, u2_u2, Int.natCast_add, Int.zero_add, Int.add_zero, ↓reduceIte, ne_eq, not_true_eq_false, not_false_eq_true, Int.natCast_one, ↓k_X6_readClause_0, ↓mc_3, ↓cI x6, ↓cI v0, ↓cI v1, ↓cI v2, ↓zg_12_2, j2, ↓k_X6_readClause_130, ↓k_X6_readClause_131, ↓cI a0, ↓k_X6_readClause_149, ↓k_X6_readClause_150]
        · have v2 : q_call q_MT d 110 [.ref 3, .float 2] (zM I1 A W) = _ := t0 2 (by decide) w2
          rw [if_neg w2]
          by_cases w3 : wq T (sk T n a) (gE (qL' T) n (sk T n a)) 3
          · rw [if_pos w3]
            have v3 : q_call q_MT d 110 [.ref 3, .float 3] (zM I1 A W) = _ := t1 3 (by decide) w3
            by_cases c : m
            · rw [if_pos c, zb_t c]
              refine (c_readFelt (W := W) (d := d) (by omega) x2 hD1).up fc fr.refl x5 (fun v h hv e => ?_)
              rw [cl_X6_readClause]
              rcases hv with rfl | rfl <;> simp (implicitDefEqProofs := false) (disch := omega) only [↓rI_s, ↓rV_s, ↓rI_e, ↓rV_e, zc_eq, zc_ne, zc_lt, zc_ge, zc_gt, zc_le, zlt_t, zlt_f, zle_t, zle_f, zeq_t, zeq_f, lz, zadd, zsub, zmul, zneg, zb_e0, zb_e1, boo0, boo1, ua_s, ua_n, ua_ua, up_s, u2_s, u2_f, u2_c, u2_u2, Int.natCast_add, Int.zero_add, Int.add_zero, ↓reduceIte, ne_eq, not_true_eq_false, not_false_eq_true, Int.natCast_one, ↓k_X6_readClause_0, ↓mc_3, ↓cI x6, ↓cI v0, ↓cI v1, ↓cI v2, ↓cI v3, ↓cI a1, ↓mc_12, ↓cI e, ↓k_X6_readClause_180, ↓k_X6_readClause_181]
            · rw [if_neg c]
              refine bad3 ?_
              rw [cl_X6_readClause, zb_f c]
              simp (implicitDefEqProofs := false) (disch := omega) only [↓rI_s, ↓rV_s, ↓rI_e, ↓rV_e, zc_eq, zc_ne, zc_lt, zc_ge, zc_gt, zc_le, zlt_t, zlt_f, zle_t, zle_f, zeq_t, zeq_f, lz, zadd, zsub, zmul, zneg, zb_e0, zb_e1, boo0, boo1, ua_s, ua_n, ua_ua, up_s, u2_s, u2_f, u2_c, u2_u2, Int.natCast_add, Int.zero_add, Int.add_zero, ↓reduceIte, ne_eq, not_true_eq_false, not_false_eq_true, Int.natCast_one, ↓k_X6_readClause_0, ↓mc_3, ↓cI x6, ↓cI v0, ↓cI v1, ↓cI v2, ↓cI v3, ↓cI a0, ↓k_X6_readClause_180, ↓k_X6_readClause_181]
          · have v3 : q_call q_MT d 110 [.ref 3, .float 3] (zM I1 A W) = _ := t0 3 (by decide) w3
            rw [if_neg w3]
            by_cases w4 : wq T (sk T n a) (gE (qL' T) n (sk T n a)) 4
            · rw [if_pos w4]
              have v4 : q_call q_MT d 110 [.ref 3, .float 4] (zM I1 A W) = _ := t1 4 (by decide) w4
              by_cases c : m
              · rw [if_pos c, zb_t c]
                refine (c_readNap (W := W) (d := d) (by omega) x2 hD1).up fc fr.refl x5 (fun v h hv e => ?_)
                rw [cl_X6_readClause]
                rcases hv with rfl | rfl <;> simp (implicitDefEqProofs := false) (disch := omega) only [↓rI_s, ↓rV_s, ↓rI_e, ↓rV_e, zc_eq, zc_ne, zc_lt, zc_ge, zc_gt, zc_le, zlt_t, zlt_f, zle_t, zle_f, zeq_t, zeq_f, lz, zadd, zsub, zmul, zneg, zb_e0, zb_e1, boo0, boo1, ua_s, ua_n, ua_ua, up_s, u2_s, u2_f, u2_c, u2_u2, Int.natCast_add, Int.zero_add, Int.add_zero, ↓reduceIte, ne_eq, not_true_eq_false, not_false_eq_true, Int.natCast_one, ↓k_X6_readClause_0, ↓mc_3, ↓cI x6, ↓cI v0, ↓cI v1, ↓cI v2, ↓cI v3, ↓cI v4, ↓cI a1, ↓mc_12, ↓cI e, ↓k_X6_readClause_211, ↓k_X6_readClause_212]
              · rw [if_neg c]
                refine bad3 ?_
                rw [cl_X6_readClause, zb_f c]
                simp (implicitDefEqProofs := false) (disch := omega) only [↓rI_s, ↓rV_s, ↓rI_e, ↓rV_e, zc_eq, zc_ne, zc_lt, zc_ge, zc_gt, zc_le, zlt_t, zlt_f, zle_t, zle_f, zeq_t, zeq_f, lz, zadd, zsub, zmul, zneg, zb_e0, zb_e1, boo0, boo1, ua_s, ua_n, ua_ua, up_s, u2_s, u2_f, u2_c, u2_u2, Int.natCast_add, Int.zero_add, Int.add_zero, ↓reduceIte, ne_eq, not_true_eq_false, not_false_eq_true, Int.natCast_one, ↓k_X6_readClause_0, ↓mc_3, ↓cI x6, ↓cI v0, ↓cI v1, ↓cI v2, ↓cI v3, ↓cI v4, ↓cI a0, ↓k_X6_readClause_211, ↓k_X6_readClause_212]
            · have v4 : q_call q_MT d 110 [.ref 3, .float 4] (zM I1 A W) = _ := t0 4 (by decide) w4
              rw [if_neg w4]
              have ef := c_fail (I := I1) (A := A) (W := W) (d := d) (k := 1) (p := sk T n a) (by omega)
              refine cE.bad (u2 (u2 I1 3 6 1) 3 7 (sk T n a)) A ((fc.f rfl).f rfl) fr.refl (by rw [u2_f (by decide), u2_s]) u2_s ?_
              rw [cl_X6_readClause]
              simp (implicitDefEqProofs := false) (disch := omega) only [↓rI_s, ↓rV_s, ↓rI_e, ↓rV_e, zc_eq, zc_ne, zc_lt, zc_ge, zc_gt, zc_le, zlt_t, zlt_f, zle_t, zle_f, zeq_t, zeq_f, lz, zadd, zsub, zmul, zneg, zb_e0, zb_e1, boo0, boo1, ua_s, ua_n, ua_ua, up_s, u2_s, u2_f, u2_c, u2_u2, Int.natCast_add, Int.zero_add, Int.add_zero, ↓reduceIte, ne_eq, not_true_eq_false, not_false_eq_true, Int.natCast_one, ↓k_X6_readClause_0, ↓mc_3, ↓cI x6, ↓cI v0, ↓cI v1, ↓cI v2, ↓cI v3, ↓cI v4, ↓zg_3_4, x3, ↓cI ef]
end RD2
