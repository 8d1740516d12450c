--DEPS 88.word
section RD
variable {d : Nat} {I : Nat → Nat → Int} {A : Nat → Int → Int} {W : qWt} {T : Int → Int} {n a : Int}
theorem c_word (hd : 2 ≤ d) (h : cTx T n a I A) : if gE (qL' T) n (sk T n a) = sk T n a then ∃ I', fi xK I I' ∧ I' 3 6 = 1 ∧ I' 3 7 = sk T n a ∧ q_call q_MT d 109 [.ref 3] (zM I A W) = some (.inl (some (.int (zI 0))), zM I' A W) else ∃ I', fi xK I I' ∧ cTx T n (gE (qL' T) n (sk T n a)) I' A ∧ I' 3 4 = sk T n a ∧ I' 3 6 = I 3 6 ∧ I' 3 7 = I 3 7 ∧ q_call q_MT d 109 [.ref 3] (zM I A W) = some (.inl (some (.int (zI 1))), zM I' A W) := by
  obtain ⟨d, rfl⟩ : ∃ e, d = e + 1 := ⟨d - 1, by omega⟩
  have e := c_peek (W := W) (show 1 ≤ d by omega) h
  have gb := sk_b (T := T) h.2.2.2.2.2.1
  have h5 := h.2.2.2.2.1
  have h7 := h.2.2.2.2.2.2
  generalize hbe : sk T n a = b at *
  have dg := gE_b (q := qL' T) (n := n) (a := b) (by omega)
  have loop : ∀ (f : Nat) (c : Int) (J : Nat → Nat → Int), (gE (qL' T) n b - c).toNat = f → b ≤ c → c ≤ gE (qL' T) n b → J 3 2 = n → J 3 3 = c → q_run qm_X9_word (q_call q_MT d) 5 [.ref 3] [] (zM J A W) = q_run qm_X9_word (q_call q_MT d) 57 [.ref 3] [] (zM (u2 J 3 3 (gE (qL' T) n b)) A W) := by
    intro f
    induction f with
    | zero =>
      intro c J hf hc hk e2 e3
      have ek : c = gE (qL' T) n b := by omega
      have e33 : u2 J 3 3 (gE (qL' T) n b) = J := by rw [← ek, ← e3]; exact u2_id
      rw [e33, k_X9_word_5]
      by_cases c1 : c < n
      · have nd : ¬ (97 ≤ T c ∧ T c ≤ 122) := fun q => dg.2.2.1 ⟨by omega, by rw [← ek]; exact decide_eq_true q⟩
        have ej := h.1 c (by omega) c1
        have sf := sg_f (T c)
        have tb := h.2.1 c
        by_cases c2 : sg (T c) < 97
        · simp (implicitDefEqProofs := false) (disch := omega) only [↓rI_s, ↓rV_s, ↓rI_e, ↓rV_e, zc_eq, zc_ne, zc_lt, zc_ge, zc_gt, zc_le, zlt_t, zlt_f, zle_t, zle_f, zeq_t, zeq_f, lz, zadd, zsub, zmul, zneg, zb_e0, zb_e1, boo0, boo1, ua_s, ua_n, ua_ua, up_s, u2_s, u2_f, u2_c, u2_u2, Int.natCast_add, Int.zero_add, Int.add_zero, ↓reduceIte, ne_eq, not_true_eq_false, not_false_eq_true, Int.natCast_one, ↓zg_3_3, ↓zg_3_2, e2, e3, ↓zg_3_0, zl_4, ej]
        · simp (implicitDefEqProofs := false) (disch := omega) only [↓rI_s, ↓rV_s, ↓rI_e, ↓rV_e, zc_eq, zc_ne, zc_lt, zc_ge, zc_gt, zc_le, zlt_t, zlt_f, zle_t, zle_f, zeq_t, zeq_f, lz, zadd, zsub, zmul, zneg, zb_e0, zb_e1, boo0, boo1, ua_s, ua_n, ua_ua, up_s, u2_s, u2_f, u2_c, u2_u2, Int.natCast_add, Int.zero_add, Int.add_zero, ↓reduceIte, ne_eq, not_true_eq_false, not_false_eq_true, Int.natCast_one, ↓zg_3_3, ↓zg_3_2, e2, e3, ↓zg_3_0, zl_4, ej]
      · simp (implicitDefEqProofs := false) (disch := omega) only [↓rI_s, ↓rV_s, ↓rI_e, ↓rV_e, zc_eq, zc_ne, zc_lt, zc_ge, zc_gt, zc_le, zlt_t, zlt_f, zle_t, zle_f, zeq_t, zeq_f, lz, zadd, zsub, zmul, zneg, zb_e0, zb_e1, boo0, boo1, ua_s, ua_n, ua_ua, up_s, u2_s, u2_f, u2_c, u2_u2, Int.natCast_add, Int.zero_add, Int.add_zero, ↓reduceIte, ne_eq, not_true_eq_false, not_false_eq_true, Int.natCast_one, ↓zg_3_3, ↓zg_3_2, e2, e3]
    | succ f ih =>
      intro c J hf hc hk e2 e3
      have hl := of_decide_eq_true (dg.2.2.2 c hc (by omega))
      have ej := h.1 c (by omega) (by omega)
      have sf := sg_f (T c)
      have x := ih (c + 1) (u2 J 3 3 (c + 1)) (by omega) (by omega) (by omega) (by rw [u2_f (by decide)]; exact e2) u2_s
      rw [u2_u2] at x
      rw [← x, k_X9_word_5]
      simp (implicitDefEqProofs := false) (disch := omega) only [↓rI_s, ↓rV_s, ↓rI_e, ↓rV_e, zc_eq, zc_ne, zc_lt, zc_ge, zc_gt, zc_le, zlt_t, zlt_f, zle_t, zle_f, zeq_t, zeq_f, lz, zadd, zsub, zmul, zneg, zb_e0, zb_e1, boo0, boo1, ua_s, ua_n, ua_ua, up_s, u2_s, u2_f, u2_c, u2_u2, Int.natCast_add, Int.zero_add, Int.add_zero, ↓reduceIte, ne_eq, not_true_eq_false, not_false_eq_true, Int.natCast_one, ↓zg_3_3, ↓zg_3_2, e2, e3, ↓zg_3_0, zl_4, ej, ↓zp_3_3]
  have x := loop _ b (u2 (u2 I 3 3 b) 3 4 b) rfl (by omega) (by omega) (by rw [u2_f (by decide), u2_f (by decide)]; exact h.2.2.1) (by rw [u2_f (by decide), u2_s])
  have to57 : q_call q_MT (d + 1) 109 [.ref 3] (zM I A W) = q_run qm_X9_word (q_call q_MT d) 57 [.ref 3] [] (zM (u2 (u2 (u2 I 3 3 b) 3 4 b) 3 3 (gE (qL' T) n b)) A W) := by
    rw [← x, cl_X9_word]
    simp (implicitDefEqProofs := false) (disch := omega) only [↓rI_s, ↓rV_s, ↓rI_e, ↓rV_e, zc_eq, zc_ne, zc_lt, zc_ge, zc_gt, zc_le, zlt_t, zlt_f, zle_t, zle_f, zeq_t, zeq_f, lz, zadd, zsub, zmul, zneg, zb_e0, zb_e1, boo0, boo1, ua_s, ua_n, ua_ua, up_s, u2_s, u2_f, u2_c, u2_u2, Int.natCast_add, Int.zero_add, Int.add_zero, ↓reduceIte, ne_eq, not_true_eq_false, not_false_eq_true, Int.natCast_one, ↓k_X9_word_0, ↓mc_3, e]
  rw [to57, k_X9_word_57]
  split
  · rename_i c
    have ef := c_fail (I := u2 (u2 (u2 I 3 3 b) 3 4 b) 3 3 (gE (qL' T) n b)) (A := A) (W := W) (d := d) (k := 1) (p := b) (by omega)
    refine ⟨u2 (u2 (u2 (u2 (u2 I 3 3 b) 3 4 b) 3 3 (gE (qL' T) n b)) 3 6 1) 3 7 b, ((((fi.refl.f rfl).f rfl).f rfl).f rfl).f rfl, by rw [u2_f (by decide), u2_s], u2_s, ?_⟩
    simp (implicitDefEqProofs := false) (disch := omega) only [↓rI_s, ↓rV_s, ↓rI_e, ↓rV_e, zc_eq, zc_ne, zc_lt, zc_ge, zc_gt, zc_le, zlt_t, zlt_f, zle_t, zle_f, zeq_t, zeq_f, lz, zadd, zsub, zmul, zneg, zb_e0, zb_e1, boo0, boo1, ua_s, ua_n, ua_ua, up_s, u2_s, u2_f, u2_c, u2_u2, Int.natCast_add, Int.zero_add, Int.add_zero, ↓reduceIte, ne_eq, not_true_eq_false, not_false_eq_true, Int.natCast_one, ↓zg_3_3, ↓zg_3_4, ↓mc_3, ef, ↓k_X9_word_80, ↓k_X9_word_85]
  · rename_i c
    refine ⟨u2 (u2 (u2 I 3 3 b) 3 4 b) 3 3 (gE (qL' T) n b), ((fi.refl.f rfl).f rfl).f rfl, h.u (by rw [u2_f (by decide), u2_f (by decide), u2_f (by decide)]) u2_s (by omega) (by omega), by rw [u2_f (by decide), u2_s], by rw [u2_f (by decide), u2_f (by decide), u2_f (by decide)], by rw [u2_f (by decide), u2_f (by decide), u2_f (by decide)], ?_⟩
    simp (implicitDefEqProofs := false) (disch := omega) only [↓rI_s, ↓rV_s, ↓rI_e, ↓rV_e, zc_eq, zc_ne, zc_lt, zc_ge, zc_gt, zc_le, zlt_t, zlt_f, zle_t, zle_f, zeq_t, zeq_f, lz, zadd, zsub, zmul, zneg, zb_e0, zb_e1, boo0, boo1, ua_s, ua_n, ua_ua, up_s, u2_s, u2_f, u2_c, u2_u2, Int.natCast_add, Int.zero_add, Int.add_zero, ↓reduceIte, ne_eq, not_true_eq_false, not_false_eq_true, Int.natCast_one, ↓zg_3_3, ↓zg_3_4, ↓k_X9_word_80, ↓k_X9_word_85]
theorem c_allow {p : Prop} [Decidable p] {b : Int} (hd : 2 ≤ d) (h4 : I 3 4 = b) : q_call q_MT d 111 [.ref 3, .int (zI (zb p))] (zM I A W) = if p then some (.inl (some (.int (zI 1))), zM I A W) else some (.inl (some (.int (zI 0))), zM (u2 (u2 I 3 6 3) 3 7 b) A W) := by
  obtain ⟨d, rfl⟩ : ∃ e, d = e + 1 := ⟨d - 1, by omega⟩
  rw [cl_X9_allow]
  by_cases c : p
  · rw [if_pos c, zb_t c]
    simp (implicitDefEqProofs := false) (disch := omega) only [↓rI_s, ↓rV_s, ↓rI_e, ↓rV_e, zc_eq, zc_ne, zc_lt, zc_ge, zc_gt, zc_le, zlt_t, zlt_f, zle_t, zle_f, zeq_t, zeq_f, lz, zadd, zsub, zmul, zneg, zb_e0, zb_e1, boo0, boo1, ua_s, ua_n, ua_ua, up_s, u2_s, u2_f, u2_c, u2_u2, Int.natCast_add, Int.zero_add, Int.add_zero, ↓reduceIte, ne_eq, not_true_eq_false, not_false_eq_true, Int.natCast_one, ↓k_X9_allow_0, ↓k_X9_allow_16, ↓k_X9_allow_21, ↓zg_3_4, ↓mc_3]
  · have ef := c_fail (I := I) (A := A) (W := W) (d := d) (k := 3) (p := b) (by omega)
    rw [if_neg c, zb_f c]
    simp (implicitDefEqProofs := false) (disch := omega) only [↓rI_s, ↓rV_s, ↓rI_e, ↓rV_e, zc_eq, zc_ne, zc_lt, zc_ge, zc_gt, zc_le, zlt_t, zlt_f, zle_t, zle_f, zeq_t, zeq_f, lz, zadd, zsub, zmul, zneg, zb_e0, zb_e1, boo0, boo1, ua_s, ua_n, ua_ua, up_s, u2_s, u2_f, u2_c, u2_u2, Int.natCast_add, Int.zero_add, Int.add_zero, ↓reduceIte, ne_eq, not_true_eq_false, not_false_eq_true, Int.natCast_one, ↓k_X9_allow_0, ↓k_X9_allow_16, ↓k_X9_allow_21, ↓zg_3_4, ↓mc_3, h4, ef]
theorem m_pass (hd : 2 ≤ d) (h : mTx T n a I A) : q_call q_MT d 175 [.ref 59] (zM I A W) = some (.inl none, zM (u2 I 59 4 (gE (qL' T) n a)) A W) := by
  obtain ⟨d, rfl⟩ : ∃ e, d = e + 1 := ⟨d - 1, by omega⟩
  have dg := gE_b (q := qL' T) (n := n) (a := a) h.2.2.2.2.2.1
  obtain ⟨h1, h2, h3, h4, h5, h6, h7⟩ := h
  rw [cl_X11_pass]
  have loop : ∀ (f : Nat) (c : Int) (J : Nat → Nat → Int), (gE (qL' T) n a - c).toNat = f → a ≤ c → c ≤ gE (qL' T) n a → J 59 3 = n → J 59 4 = c → q_run qm_X11_pass (q_call q_MT d) 0 [.ref 59] [] (zM J A W) = some (.inl none, zM (u2 J 59 4 (gE (qL' T) n a)) A W) := by
    intro f
    induction f with
    | zero =>
      intro c J hf hc hk e2 e3
      have ek : c = gE (qL' T) n a := by omega
      have e33 : u2 J 59 4 (gE (qL' T) n a) = J := by rw [← ek, ← e3]; exact u2_id
      rw [e33, k_X11_pass_0]
      by_cases c1 : c < n
      · have nd : ¬ (97 ≤ T c ∧ T c ≤ 122) := fun q => dg.2.2.1 ⟨by omega, by rw [← ek]; exact decide_eq_true q⟩
        have ej := h1 c (by omega) c1
        have es := m_isSmall (d := d) (h := zM J A W) (c := T c) (by omega) (h2 _)
        rw [zb_f nd] at es
        simp (implicitDefEqProofs := false) (disch := omega) only [↓rI_s, ↓rV_s, ↓rI_e, ↓rV_e, zc_eq, zc_ne, zc_lt, zc_ge, zc_gt, zc_le, zlt_t, zlt_f, zle_t, zle_f, zeq_t, zeq_f, lz, zadd, zsub, zmul, zneg, zb_e0, zb_e1, boo0, boo1, ua_s, ua_n, ua_ua, up_s, u2_s, u2_f, u2_c, u2_u2, Int.natCast_add, Int.zero_add, Int.add_zero, ↓reduceIte, ne_eq, not_true_eq_false, not_false_eq_true, Int.natCast_one, ↓zg_59_4, ↓zg_59_3, e2, e3, ↓zg_59_9, zl_61, ej, es, ↓k_X11_pass_39]
      · simp (implicitDefEqProofs := false) (disch := omega) only [↓rI_s, ↓rV_s, ↓rI_e, ↓rV_e, zc_eq, zc_ne, zc_lt, zc_ge, zc_gt, zc_le, zlt_t, zlt_f, zle_t, zle_f, zeq_t, zeq_f, lz, zadd, zsub, zmul, zneg, zb_e0, zb_e1, boo0, boo1, ua_s, ua_n, ua_ua, up_s, u2_s, u2_f, u2_c, u2_u2, Int.natCast_add, Int.zero_add, Int.add_zero, ↓reduceIte, ne_eq, not_true_eq_false, not_false_eq_true, Int.natCast_one, ↓zg_59_4, ↓zg_59_3, e2, e3, ↓k_X11_pass_39]
    | succ f ih =>
      intro c J hf hc hk e2 e3
      have hl := of_decide_eq_true (dg.2.2.2 c hc (by omega))
      have ej := h1 c (by omega) (by omega)
      have es := m_isSmall (d := d) (h := zM J A W) (c := T c) (by omega) (h2 _)
      rw [zb_t hl] at es
      have x := ih (c + 1) (u2 J 59 4 (c + 1)) (by omega) (by omega) (by omega) (by rw [u2_f (by decide)]; exact e2) u2_s
      rw [u2_u2] at x
      rw [← x, k_X11_pass_0]
      simp (implicitDefEqProofs := false) (disch := omega) only [↓rI_s, ↓rV_s, ↓rI_e, ↓rV_e, zc_eq, zc_ne, zc_lt, zc_ge, zc_gt, zc_le, zlt_t, zlt_f, zle_t, zle_f, zeq_t, zeq_f, lz, zadd, zsub, zmul, zneg, zb_e0, zb_e1, boo0, boo1, ua_s, ua_n, ua_ua, up_s, u2_s, u2_f, u2_c, u2_u2, Int.natCast_add, Int.zero_add, Int.add_zero, ↓reduceIte, ne_eq, not_true_eq_false, not_false_eq_true, Int.natCast_one, ↓zg_59_4, ↓zg_59_3, e2, e3, ↓zg_59_9, zl_61, ej, es, ↓zp_59_4]
  exact loop _ a I rfl (by omega) (by omega) h3 h4
theorem m_isMore (hd : 2 ≤ d) (h : mTx T n a I A) : q_call q_MT d 178 [.ref 59] (zM I A W) = some (.inl (some (.int (zI (zb (sk T n a < n))))), zM (u2 I 59 4 (sk T n a)) A W) := by
  obtain ⟨d, rfl⟩ : ∃ e, d = e + 1 := ⟨d - 1, by omega⟩
  have e := m_here (W := W) (show 1 ≤ d by omega) h
  have gb := sk_b (T := T) h.2.2.2.2.2.1
  have h3 := h.2.2.1
  have h7 := h.2.2.2.2.2.2
  have h5 := h.2.2.2.2.1
  rw [cl_X11_isMore]
  by_cases c : sk T n a < n
  · rw [zb_t c]
    simp (implicitDefEqProofs := false) (disch := omega) only [↓rI_s, ↓rV_s, ↓rI_e, ↓rV_e, zc_eq, zc_ne, zc_lt, zc_ge, zc_gt, zc_le, zlt_t, zlt_f, zle_t, zle_f, zeq_t, zeq_f, lz, zadd, zsub, zmul, zneg, zb_e0, zb_e1, boo0, boo1, ua_s, ua_n, ua_ua, up_s, u2_s, u2_f, u2_c, u2_u2, Int.natCast_add, Int.zero_add, Int.add_zero, ↓reduceIte, ne_eq, not_true_eq_false, not_false_eq_true, Int.natCast_one, ↓k_X11_isMore_0, ↓k_X11_isMore_21, ↓mc_59, ↓zg_59_4, ↓zg_59_3, e, h3]
  · rw [zb_f c]
    simp (implicitDefEqProofs := false) (disch := omega) only [↓rI_s, ↓rV_s, ↓rI_e, ↓rV_e, zc_eq, zc_ne, zc_lt, zc_ge, zc_gt, zc_le, zlt_t, zlt_f, zle_t, zle_f, zeq_t, zeq_f, lz, zadd, zsub, zmul, zneg, zb_e0, zb_e1, boo0, boo1, ua_s, ua_n, ua_ua, up_s, u2_s, u2_f, u2_c, u2_u2, Int.natCast_add, Int.zero_add, Int.add_zero, ↓reduceIte, ne_eq, not_true_eq_false, not_false_eq_true, Int.natCast_one, ↓k_X11_isMore_0, ↓k_X11_isMore_21, ↓mc_59, ↓zg_59_4, ↓zg_59_3, e, h3]
theorem m_readNumber_b {lo hi : Int} (hd : 2 ≤ d) (hb : I 59 5 ≠ -1) (hw : wI (I 59 5)) : q_call q_MT d 176 [.ref 59, .int (zI lo), .int (zI hi)] (zM I A W) = some (.inl (some (.int (zI 0))), zM I A W) := by
  obtain ⟨d, rfl⟩ : ∃ e, d = e + 1 := ⟨d - 1, by omega⟩
  have f1 := m_fine (I := I) (A := A) (W := W) (d := d) (by omega) hw
  rw [zb_f hb] at f1
  rw [cl_X11_readNumber]
  simp (implicitDefEqProofs := false) (disch := omega) only [↓rI_s, ↓rV_s, ↓rI_e, ↓rV_e, zc_eq, zc_ne, zc_lt, zc_ge, zc_gt, zc_le, zlt_t, zlt_f, zle_t, zle_f, zeq_t, zeq_f, lz, zadd, zsub, zmul, zneg, zb_e0, zb_e1, boo0, boo1, ua_s, ua_n, ua_ua, up_s, u2_s, u2_f, u2_c, u2_u2, Int.natCast_add, Int.zero_add, Int.add_zero, ↓reduceIte, ne_eq, not_true_eq_false, not_false_eq_true, Int.natCast_one, ↓k_X11_readNumber_0, ↓mc_59, f1]
theorem m_readNumber {lo hi : Int} (hd : 2 ≤ d) (h : mTx T n a I A) (hb : I 59 5 = -1) (hl : -10 ≤ lo ∧ lo ≤ 1000) (hh : -10 ≤ hi ∧ hi ≤ 1000) : match numS T n lo hi a with
    | .inl (k, p) => ∃ I' a', fi yK I I' ∧ mTx T n a' I' A ∧ I' 59 6 = k ∧ I' 59 5 = p ∧ q_call q_MT d 176 [.ref 59, .int (zI lo), .int (zI hi)] (zM I A W) = some (.inl (some (.int (zI 0))), zM I' A W)
    | .inr (e, v) => ∃ I', fi yK I I' ∧ mTx T n e I' A ∧ I' 59 5 = -1 ∧ q_call q_MT d 176 [.ref 59, .int (zI lo), .int (zI hi)] (zM I A W) = some (.inl (some (.int (zI v))), zM I' A W) := by
  obtain ⟨d, rfl⟩ : ∃ e, d = e + 1 := ⟨d - 1, by omega⟩
  have e := m_here (W := W) (show 1 ≤ d by omega) h
  have tb := h.2.1 (sk T n a)
  have gb := sk_b (T := T) h.2.2.2.2.2.1
  have h5 := h.2.2.2.2.1
  have h7 := h.2.2.2.2.2.2
  have h3 := h.2.2.1
  have f1 := m_fine (I := I) (A := A) (W := W) (d := d) (by omega) (by omega)
  rw [zb_t hb] at f1
  unfold numS
  generalize hbe : sk T n a = b at *
  have hb2 : u2 I 59 4 b 59 5 = -1 := by rw [u2_f (by decide)]; exact hb
  by_cases q : b < n ∧ 48 ≤ T b ∧ T b ≤ 57
  · rw [if_pos q]
    rw [if_pos q.1] at e
    have dg := gE_b (q := qD T) (n := n) (a := b) (by omega)
    have ed := m_isDigit (d := d) (h := zM (u2 I 59 4 b) A W) (c := T b) (by omega) tb
    rw [zb_t q.2] at ed
    have loop : ∀ (f : Nat) (k : Nat) (l3 : Value), (gE (qD T) n b - (b + k)).toNat = f → (b : Int) + k ≤ gE (qD T) n b → q_run qm_X11_readNumber (q_call q_MT d) 41 [.ref 59, .int (zI lo), .int (zI hi), l3, .int (zI b), .int (zI (acM T b k))] [] (zM (u2 I 59 4 (b + k)) A W) = q_run qm_X11_readNumber (q_call q_MT d) 114 [.ref 59, .int (zI lo), .int (zI hi), l3, .int (zI b), .int (zI (acM T b (gE (qD T) n b - b).toNat))] [] (zM (u2 I 59 4 (gE (qD T) n b)) A W) := by
      intro f
      induction f with
      | zero =>
        intro k l3 hf hk
        have ek : b + (k : Int) = gE (qD T) n b := by omega
        rw [k_X11_readNumber_41, show (gE (qD T) n b - b).toNat = k by omega, ek]
        by_cases c : gE (qD T) n b < n
        · have nd : ¬ (48 ≤ T (gE (qD T) n b) ∧ T (gE (qD T) n b) ≤ 57) := fun q => dg.2.2.1 ⟨c, decide_eq_true q⟩
          have ej := h.1 (gE (qD T) n b) (by omega) c
          have es := m_isDigit (d := d) (h := zM (u2 I 59 4 (gE (qD T) n b)) A W) (c := T (gE (qD T) n b)) (by omega) (h.2.1 _)
          rw [zb_f nd] at es
          simp (implicitDefEqProofs := false) (disch := omega) only [↓rI_s, ↓rV_s, ↓rI_e, ↓rV_e, zc_eq, zc_ne, zc_lt, zc_ge, zc_gt, zc_le, zlt_t, zlt_f, zle_t, zle_f, zeq_t, zeq_f, lz, zadd, zsub, zmul, zneg, zb_e0, zb_e1, boo0, boo1, ua_s, ua_n, ua_ua, up_s, u2_s, u2_f, u2_c, u2_u2, Int.natCast_add, Int.zero_add, Int.add_zero, ↓reduceIte, ne_eq, not_true_eq_false, not_false_eq_true, Int.natCast_one, ↓zg_59_4, ↓zg_59_3, h3, ↓zg_59_9, zl_61, ej, es]
        · simp (implicitDefEqProofs := false) (disch := omega) only [↓rI_s, ↓rV_s, ↓rI_e, ↓rV_e, zc_eq, zc_ne, zc_lt, zc_ge, zc_gt, zc_le, zlt_t, zlt_f, zle_t, zle_f, zeq_t, zeq_f, lz, zadd, zsub, zmul, zneg, zb_e0, zb_e1, boo0, boo1, ua_s, ua_n, ua_ua, up_s, u2_s, u2_f, u2_c, u2_u2, Int.natCast_add, Int.zero_add, Int.add_zero, ↓reduceIte, ne_eq, not_true_eq_false, not_false_eq_true, Int.natCast_one, ↓zg_59_4, ↓zg_59_3, h3]
      | succ f ih =>
        intro k l3 hf hk
        have hd2 := of_decide_eq_true (dg.2.2.2 (b + k) (by omega) (by omega))
        have ej := h.1 (b + k) (by omega) (by omega)
        have es := m_isDigit (d := d) (h := zM (u2 I 59 4 (b + k)) A W) (c := T (b + k)) (by omega) (h.2.1 _)
        rw [zb_t hd2] at es
        have ar := ac_r (T := T) (b := b) k (fun j hj => of_decide_eq_true (dg.2.2.2 (b + j) (by omega) (by omega)))
        have x := ih (k + 1) l3 (by omega) (by omega)
        rw [show b + ((k + 1 : Nat) : Int) = b + k + 1 by omega] at x
        have ea : acM T b (k + 1) = if acM T b k ≤ 9999 then 10 * acM T b k + T (b + k) - 48 else 10000 := rfl
        rw [ea] at x
        rw [← x, k_X11_readNumber_41]
        by_cases c : acM T b k ≤ 9999
        · rw [if_pos c]
          simp (implicitDefEqProofs := false) (disch := omega) only [↓rI_s, ↓rV_s, ↓rI_e, ↓rV_e, zc_eq, zc_ne, zc_lt, zc_ge, zc_gt, zc_le, zlt_t, zlt_f, zle_t, zle_f, zeq_t, zeq_f, lz, zadd, zsub, zmul, zneg, zb_e0, zb_e1, boo0, boo1, ua_s, ua_n, ua_ua, up_s, u2_s, u2_f, u2_c, u2_u2, Int.natCast_add, Int.zero_add, Int.add_zero, ↓reduceIte, ne_eq, not_true_eq_false, not_false_eq_true, Int.natCast_one, ↓zg_59_4, ↓zg_59_3, h3, ↓zg_59_9, zl_61, ej, es, ↓k_X11_readNumber_99, ↓zp_59_4]
        · rw [if_neg c]
          simp (implicitDefEqProofs := false) (disch := omega) only [↓rI_s, ↓rV_s, ↓rI_e, ↓rV_e, zc_eq, zc_ne, zc_lt, zc_ge, zc_gt, zc_le, zlt_t, zlt_f, zle_t, zle_f, zeq_t, zeq_f, lz, zadd, zsub, zmul, zneg, zb_e0, zb_e1, boo0, boo1, ua_s, ua_n, ua_ua, up_s, u2_s, u2_f, u2_c, u2_u2, Int.natCast_add, Int.zero_add, Int.add_zero, ↓reduceIte, ne_eq, not_true_eq_false, not_false_eq_true, Int.natCast_one, ↓zg_59_4, ↓zg_59_3, h3, ↓zg_59_9, zl_61, ej, es, ↓k_X11_readNumber_99, ↓zp_59_4]
    have x := loop _ 0 (.int (zI (T b))) rfl (by omega)
    rw [show b + ((0 : Nat) : Int) = b by omega, show acM T b 0 = 0 from rfl] at x
    have ar := ac_r (T := T) (b := b) (gE (qD T) n b - b).toNat (fun j hj => of_decide_eq_true (dg.2.2.2 (b + j) (by omega) (by omega)))
    have to114 : q_call q_MT (d + 1) 176 [.ref 59, .int (zI lo), .int (zI hi)] (zM I A W) = q_run qm_X11_readNumber (q_call q_MT d) 114 [.ref 59, .int (zI lo), .int (zI hi), .int (zI (T b)), .int (zI b), .int (zI (acM T b (gE (qD T) n b - b).toNat))] [] (zM (u2 I 59 4 (gE (qD T) n b)) A W) := by
      rw [← x, cl_X11_readNumber]
      simp (implicitDefEqProofs := false) (disch := omega) only [↓rI_s, ↓rV_s, ↓rI_e, ↓rV_e, zc_eq, zc_ne, zc_lt, zc_ge, zc_gt, zc_le, zlt_t, zlt_f, zle_t, zle_f, zeq_t, zeq_f, lz, zadd, zsub, zmul, zneg, zb_e0, zb_e1, boo0, boo1, ua_s, ua_n, ua_ua, up_s, u2_s, u2_f, u2_c, u2_u2, Int.natCast_add, Int.zero_add, Int.add_zero, ↓reduceIte, ne_eq, not_true_eq_false, not_false_eq_true, Int.natCast_one, ↓k_X11_readNumber_0, ↓mc_59, f1, e, ↓zg_59_4, ed]
    rw [to114, k_X11_readNumber_114]
    by_cases c : lo ≤ acC T b (gE (qD T) n b - b).toNat ∧ acC T b (gE (qD T) n b - b).toNat ≤ hi
    · rw [if_pos c]
      have ee : acM T b (gE (qD T) n b - b).toNat = acC T b (gE (qD T) n b - b).toNat := by omega
      rw [ee]
      refine ⟨u2 I 59 4 (gE (qD T) n b), fi.refl.f rfl, h.u (u2_f (by decide)) u2_s (by omega) (by omega), by rw [u2_f (by decide)]; exact hb, ?_⟩
      simp (implicitDefEqProofs := false) (disch := omega) only [↓rI_s, ↓rV_s, ↓rI_e, ↓rV_e, zc_eq, zc_ne, zc_lt, zc_ge, zc_gt, zc_le, zlt_t, zlt_f, zle_t, zle_f, zeq_t, zeq_f, lz, zadd, zsub, zmul, zneg, zb_e0, zb_e1, boo0, boo1, ua_s, ua_n, ua_ua, up_s, u2_s, u2_f, u2_c, u2_u2, Int.natCast_add, Int.zero_add, Int.add_zero, ↓reduceIte, ne_eq, not_true_eq_false, not_false_eq_true, Int.natCast_one]
    · rw [if_neg c]
      have ew := m_wrong (I := u2 I 59 4 (gE (qD T) n b)) (A := A) (W := W) (d := d) (k := 2) (p := b) (by omega) (by rw [u2_f (by decide)]; exact hb)
      refine ⟨u2 (u2 (u2 I 59 4 (gE (qD T) n b)) 59 5 b) 59 6 2, gE (qD T) n b, ((fi.refl.f rfl).f rfl).f rfl, h.u (by rw [u2_f (by decide), u2_f (by decide), u2_f (by decide)]) (by rw [u2_f (by decide), u2_f (by decide), u2_s]) (by omega) (by omega), u2_s, by rw [u2_f (by decide), u2_s], ?_⟩
      by_cases c2 : acM T b (gE (qD T) n b - b).toNat < lo
      · simp (implicitDefEqProofs := false) (disch := omega) only [↓rI_s, ↓rV_s, ↓rI_e, ↓rV_e, zc_eq, zc_ne, zc_lt, zc_ge, zc_gt, zc_le, zlt_t, zlt_f, zle_t, zle_f, zeq_t, zeq_f, lz, zadd, zsub, zmul, zneg, zb_e0, zb_e1, boo0, boo1, ua_s, ua_n, ua_ua, up_s, u2_s, u2_f, u2_c, u2_u2, Int.natCast_add, Int.zero_add, Int.add_zero, ↓reduceIte, ne_eq, not_true_eq_false, not_false_eq_true, Int.natCast_one, ↓k_X11_readNumber_126, ↓mc_59, ew]
      · simp (implicitDefEqProofs := false) (disch := omega) only [↓rI_s, ↓rV_s, ↓rI_e, ↓rV_e, zc_eq, zc_ne, zc_lt, zc_ge, zc_gt, zc_le, zlt_t, zlt_f, zle_t, zle_f, zeq_t, zeq_f, lz, zadd, zsub, zmul, zneg, zb_e0, zb_e1, boo0, boo1, ua_s, ua_n, ua_ua, up_s, u2_s, u2_f, u2_c, u2_u2, Int.natCast_add, Int.zero_add, Int.add_zero, ↓reduceIte, ne_eq, not_true_eq_false, not_false_eq_true, Int.natCast_one, ↓k_X11_readNumber_126, ↓mc_59, ew]
  · rw [if_neg q]
    have ew := m_wrong (I := u2 I 59 4 b) (A := A) (W := W) (d := d) (k := 1) (p := b) (by omega) hb2
    refine ⟨u2 (u2 (u2 I 59 4 b) 59 5 b) 59 6 1, b, ((fi.refl.f rfl).f rfl).f rfl, h.u (by rw [u2_f (by decide), u2_f (by decide), u2_f (by decide)]) (by rw [u2_f (by decide), u2_f (by decide), u2_s]) (by omega) (by omega), u2_s, by rw [u2_f (by decide), u2_s], ?_⟩
    rw [cl_X11_readNumber]
    by_cases q2 : b < n
    · have ed := m_isDigit (d := d) (h := zM (u2 I 59 4 b) A W) (c := T b) (by omega) tb
      rw [zb_f (fun q3 => q ⟨q2, q3⟩)] at ed
      rw [if_pos q2] at e
      simp (implicitDefEqProofs := false) (disch := omega) only [↓rI_s, ↓rV_s, ↓rI_e, ↓rV_e, zc_eq, zc_ne, zc_lt, zc_ge, zc_gt, zc_le, zlt_t, zlt_f, zle_t, zle_f, zeq_t, zeq_f, lz, zadd, zsub, zmul, zneg, zb_e0, zb_e1, boo0, boo1, ua_s, ua_n, ua_ua, up_s, u2_s, u2_f, u2_c, u2_u2, Int.natCast_add, Int.zero_add, Int.add_zero, ↓reduceIte, ne_eq, not_true_eq_false, not_false_eq_true, Int.natCast_one, ↓k_X11_readNumber_0, ↓mc_59, f1, e, ↓zg_59_4, ed, ew]
    · have ed := m_isDigit (d := d) (h := zM (u2 I 59 4 b) A W) (c := 0) (by omega) (by decide)
      rw [zb_f (by decide)] at ed
      rw [if_neg q2] at e
      simp (implicitDefEqProofs := false) (disch := omega) only [↓rI_s, ↓rV_s, ↓rI_e, ↓rV_e, zc_eq, zc_ne, zc_lt, zc_ge, zc_gt, zc_le, zlt_t, zlt_f, zle_t, zle_f, zeq_t, zeq_f, lz, zadd, zsub, zmul, zneg, zb_e0, zb_e1, boo0, boo1, ua_s, ua_n, ua_ua, up_s, u2_s, u2_f, u2_c, u2_u2, Int.natCast_add, Int.zero_add, Int.add_zero, ↓reduceIte, ne_eq, not_true_eq_false, not_false_eq_true, Int.natCast_one, ↓k_X11_readNumber_0, ↓mc_59, f1, e, ↓zg_59_4, ed, ew]
end RD
