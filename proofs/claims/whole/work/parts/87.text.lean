--DEPS 86.feed
/-! A text is read: blanks, numbers, signs, words. -/
def rE (q : Int → Bool) (n : Int) : Nat → Int → Int
  | 0, a => a
  | f + 1, a => if a < n ∧ q a = true then rE q n f (a + 1) else a
def gE (q : Int → Bool) (n a : Int) : Int := rE q n (n - a).toNat a
theorem gE_st {q : Int → Bool} {n a : Int} (h : a < n) (hq : q a = true) : gE q n a = gE q n (a + 1) := by
  unfold gE
  rw [show (n - a).toNat = (n - (a + 1)).toNat + 1 by omega]
  exact if_pos ⟨h, hq⟩
theorem gE_id {q : Int → Bool} {n a : Int} (h : ¬ (a < n ∧ q a = true)) : gE q n a = a := by
  unfold gE
  cases (n - a).toNat with
  | zero => rfl
  | succ f => exact if_neg h
theorem gE_p {q : Int → Bool} {n : Int} : ∀ (f : Nat) (a : Int), a ≤ n → (n - a).toNat = f → a ≤ gE q n a ∧ gE q n a ≤ n ∧ ¬ (gE q n a < n ∧ q (gE q n a) = true) ∧ ∀ j : Int, a ≤ j → j < gE q n a → q j = true := by
  intro f
  induction f with
  | zero =>
    intro a h hf
    have e : gE q n a = a := gE_id (by omega)
    rw [e]
    exact ⟨by omega, h, by omega, fun j j0 j1 => by omega⟩
  | succ f ih =>
    intro a h hf
    by_cases c : a < n ∧ q a = true
    · rw [gE_st c.1 c.2]
      obtain ⟨i1, i2, i3, i4⟩ := ih (a + 1) (by omega) (by omega)
      refine ⟨by omega, i2, i3, fun j j0 j1 => ?_⟩
      by_cases e : j = a
      · subst e; exact c.2
      · exact i4 j (by omega) j1
    · rw [gE_id c]
      exact ⟨by omega, h, c, fun j j0 j1 => by omega⟩
theorem gE_b {q : Int → Bool} {n a : Int} (h : a ≤ n) : a ≤ gE q n a ∧ gE q n a ≤ n ∧ ¬ (gE q n a < n ∧ q (gE q n a) = true) ∧ ∀ j : Int, a ≤ j → j < gE q n a → q j = true := gE_p _ a h rfl
abbrev qB (T : Int → Int) (j : Int) : Bool := decide (T j = 32)
abbrev qD (T : Int → Int) (j : Int) : Bool := decide (48 ≤ T j ∧ T j ≤ 57)
abbrev qL' (T : Int → Int) (j : Int) : Bool := decide (97 ≤ T j ∧ T j ≤ 122)
abbrev sk (T : Int → Int) (n a : Int) : Int := gE (qB T) n a
theorem sk_b {T : Int → Int} {n a : Int} (h : a ≤ n) : a ≤ sk T n a ∧ sk T n a ≤ n := ⟨(gE_b h).1, (gE_b h).2.1⟩
theorem sk_sk {T : Int → Int} {n a : Int} (h : a ≤ n) : sk T n (sk T n a) = sk T n a := gE_id (gE_b (q := qB T) h).2.2.1
theorem sg_f (b : Int) : (b < 128 → sg b = b) ∧ (128 ≤ b → sg b = b - 256) := by
  unfold sg
  split <;> omega
theorem sg_255 {b : Int} (h : 0 ≤ b ∧ b ≤ 255) : zI (sg b) &&& zI 255 = zI b := by
  obtain ⟨m, rfl⟩ := Int.eq_ofNat_of_zero_le h.1
  have e : ∀ m : Fin 256, zI (sg m.val) &&& zI 255 = zI (m.val : Int) := by decide +kernel
  exact e ⟨m, by omega⟩
/-- the class's text, read up to a -/
def cTx (T : Int → Int) (n a : Int) (I : Nat → Nat → Int) (A : Nat → Int → Int) : Prop := (∀ j : Int, 0 ≤ j → j < n → A 4 j = sg (T j)) ∧ (∀ j : Int, 0 ≤ T j ∧ T j ≤ 255) ∧ I 3 2 = n ∧ I 3 3 = a ∧ 0 ≤ a ∧ a ≤ n ∧ n ≤ 600
def mTx (T : Int → Int) (n a : Int) (I : Nat → Nat → Int) (A : Nat → Int → Int) : Prop := (∀ j : Int, 0 ≤ j → j < n → A 61 j = T j) ∧ (∀ j : Int, 0 ≤ T j ∧ T j ≤ 255) ∧ I 59 3 = n ∧ I 59 4 = a ∧ 0 ≤ a ∧ a ≤ n ∧ n ≤ 600
abbrev xK : List (Nat × Nat) := [(3, 3), (3, 4), (3, 5), (3, 6), (3, 7)]
abbrev yK : List (Nat × Nat) := [(59, 4), (59, 5), (59, 6)]
def acC (T : Int → Int) (b : Int) : Nat → Int
  | 0 => 0
  | k + 1 => if 1000000 < acC T b k * 10 + (T (b + k) - 48) then 1000000 else acC T b k * 10 + (T (b + k) - 48)
def acM (T : Int → Int) (b : Int) : Nat → Int
  | 0 => 0
  | k + 1 => if acM T b k ≤ 9999 then 10 * acM T b k + T (b + k) - 48 else 10000
theorem ac_r {T : Int → Int} {b : Int} : ∀ k : Nat, (∀ j : Nat, j < k → 48 ≤ T (b + j) ∧ T (b + j) ≤ 57) → (0 ≤ acC T b k ∧ acC T b k ≤ 1000000 ∧ 0 ≤ acM T b k ∧ acM T b k ≤ 99999) ∧ ((acC T b k = acM T b k ∧ acC T b k ≤ 99999) ∨ (9999 < acC T b k ∧ 9999 < acM T b k))
  | 0, _ => by unfold acC acM; omega
  | k + 1, h => by
    have ih := ac_r (T := T) (b := b) k (fun j hj => h j (by omega))
    have hk := h k (by omega)
    unfold acC acM
    split <;> split <;> omega
def numS (T : Int → Int) (n lo hi a : Int) : (Int × Int) ⊕ (Int × Int) := if sk T n a < n ∧ 48 ≤ T (sk T n a) ∧ T (sk T n a) ≤ 57 then (if lo ≤ acC T (sk T n a) (gE (qD T) n (sk T n a) - sk T n a).toNat ∧ acC T (sk T n a) (gE (qD T) n (sk T n a) - sk T n a).toNat ≤ hi then .inr (gE (qD T) n (sk T n a), acC T (sk T n a) (gE (qD T) n (sk T n a) - sk T n a).toNat) else .inl (2, sk T n a)) else .inl (1, sk T n a)
def sgnS (T : Int → Int) (n c a : Int) : (Int × Int) ⊕ Int := if sk T n a < n ∧ T (sk T n a) = c then .inr (sk T n a + 1) else .inl (1, sk T n a)
section TX
variable {d : Nat} {I : Nat → Nat → Int} {A : Nat → Int → Int} {W : qWt} {T : Int → Int} {n a : Int}
theorem cTx.u {I' : Nat → Nat → Int} {a' : Int} (h : cTx T n a I A) (f : I' 3 2 = I 3 2) (e : I' 3 3 = a') (h0 : 0 ≤ a') (h1 : a' ≤ n) : cTx T n a' I' A := ⟨h.1, h.2.1, f.trans h.2.2.1, e, h0, h1, h.2.2.2.2.2.2⟩
theorem mTx.u {I' : Nat → Nat → Int} {a' : Int} (h : mTx T n a I A) (f : I' 59 3 = I 59 3) (e : I' 59 4 = a') (h0 : 0 ≤ a') (h1 : a' ≤ n) : mTx T n a' I' A := ⟨h.1, h.2.1, f.trans h.2.2.1, e, h0, h1, h.2.2.2.2.2.2⟩
theorem c_peek (hd : 1 ≤ d) (h : cTx T n a I A) : q_call q_MT d 105 [.ref 3] (zM I A W) = some (.inl (some (.int (zI (if sk T n a < n then T (sk T n a) else -1)))), zM (u2 (u2 I 3 3 (sk T n a)) 3 4 (sk T n a)) A W) := by
  obtain ⟨d, rfl⟩ : ∃ e, d = e + 1 := ⟨d - 1, by omega⟩
  rw [cl_X9_peek]
  have key : ∀ (f : Nat) (a : Int) (I : Nat → Nat → Int), (n - a).toNat = f → cTx T n a I A → q_run qm_X9_peek (q_call q_MT d) 0 [.ref 3] [] (zM I A W) = some (.inl (some (.int (zI (if sk T n a < n then T (sk T n a) else -1)))), zM (u2 (u2 I 3 3 (sk T n a)) 3 4 (sk T n a)) A W) := by
    intro f
    induction f with
    | zero =>
      intro a I hf h
      obtain ⟨h1, h2, h3, h4, h5, h6, h7⟩ := h
      have e : sk T n a = a := gE_id (by omega)
      have e33 : u2 I 3 3 a = I := by rw [← h4]; exact u2_id
      rw [e, if_neg (show ¬ a < n by omega), e33, k_X9_peek_0]
      simp (implicitDefEqProofs := false) (disch := omega) only [↓rI_s, ↓rV_s, ↓rI_e, ↓rV_e, zc_eq, zc_ne, zc_lt, zc_ge, zc_gt, zc_le, zlt_t, zlt_f, zle_t, zle_f, zeq_t, zeq_f, lz, zadd, zsub, zmul, zneg, zb_e0, zb_e1, boo0, boo1, ua_s, ua_n, ua_ua, up_s, u2_s, u2_f, u2_c, u2_u2, Int.natCast_add, Int.zero_add, Int.add_zero, ↓reduceIte, ne_eq, not_true_eq_false, not_false_eq_true, Int.natCast_one, ↓zg_3_3, ↓zg_3_2, h3, h4, ↓k_X9_peek_38, ↓zp_3_4, ↓k_X9_peek_74]
    | succ f ih =>
      intro a I hf h
      have h' := h
      obtain ⟨h1, h2, h3, h4, h5, h6, h7⟩ := h
      have ej := h1 a h5 (by omega)
      have sf := sg_f (T a)
      have tb := h2 a
      by_cases c : T a = 32
      · have e : sk T n a = sk T n (a + 1) := gE_st (by omega) (decide_eq_true c)
        have := ih (a + 1) (u2 I 3 3 (a + 1)) (by omega) (h'.u (u2_f (by decide)) u2_s (by omega) (by omega))
        rw [u2_u2] at this
        rw [e, ← this, k_X9_peek_0]
        simp (implicitDefEqProofs := false) (disch := omega) only [↓rI_s, ↓rV_s, ↓rI_e, ↓rV_e, zc_eq, zc_ne, zc_lt, zc_ge, zc_gt, zc_le, zlt_t, zlt_f, zle_t, zle_f, zeq_t, zeq_f, lz, zadd, zsub, zmul, zneg, zb_e0, zb_e1, boo0, boo1, ua_s, ua_n, ua_ua, up_s, u2_s, u2_f, u2_c, u2_u2, Int.natCast_add, Int.zero_add, Int.add_zero, ↓reduceIte, ne_eq, not_true_eq_false, not_false_eq_true, Int.natCast_one, ↓zg_3_3, ↓zg_3_2, h3, h4, ↓zg_3_0, zl_4, ej, ↓zp_3_3]
      · have e : sk T n a = a := gE_id (fun q => c (of_decide_eq_true q.2))
        have e33 : u2 I 3 3 a = I := by rw [← h4]; exact u2_id
        rw [e, if_pos (show a < n by omega), e33, k_X9_peek_0]
        simp (implicitDefEqProofs := false) (disch := omega) only [↓rI_s, ↓rV_s, ↓rI_e, ↓rV_e, zc_eq, zc_ne, zc_lt, zc_ge, zc_gt, zc_le, zlt_t, zlt_f, zle_t, zle_f, zeq_t, zeq_f, lz, zadd, zsub, zmul, zneg, zb_e0, zb_e1, boo0, boo1, ua_s, ua_n, ua_ua, up_s, u2_s, u2_f, u2_c, u2_u2, Int.natCast_add, Int.zero_add, Int.add_zero, ↓reduceIte, ne_eq, not_true_eq_false, not_false_eq_true, Int.natCast_one, ↓zg_3_3, ↓zg_3_2, h3, h4, ↓zg_3_0, zl_4, ej, ↓k_X9_peek_38, ↓zp_3_4, ↓k_X9_peek_74, sg_255 tb]
  exact key _ a I rfl h
theorem m_here (hd : 1 ≤ d) (h : mTx T n a I A) : q_call q_MT d 170 [.ref 59] (zM I A W) = some (.inl (some (.int (zI (if sk T n a < n then T (sk T n a) else 0)))), zM (u2 I 59 4 (sk T n a)) A W) := by
  obtain ⟨d, rfl⟩ : ∃ e, d = e + 1 := ⟨d - 1, by omega⟩
  rw [cl_X11_here]
  have key : ∀ (f : Nat) (a : Int) (I : Nat → Nat → Int), (n - a).toNat = f → mTx T n a I A → q_run qm_X11_here (q_call q_MT d) 0 [.ref 59] [] (zM I A W) = some (.inl (some (.int (zI (if sk T n a < n then T (sk T n a) else 0)))), zM (u2 I 59 4 (sk T n a)) A W) := by
    intro f
    induction f with
    | zero =>
      intro a I hf h
      obtain ⟨h1, h2, h3, h4, h5, h6, h7⟩ := h
      have e : sk T n a = a := gE_id (by omega)
      have e33 : u2 I 59 4 a = I := by rw [← h4]; exact u2_id
      rw [e, if_neg (show ¬ a < n by omega), e33, k_X11_here_0]
      simp (implicitDefEqProofs := false) (disch := omega) only [↓rI_s, ↓rV_s, ↓rI_e, ↓rV_e, zc_eq, zc_ne, zc_lt, zc_ge, zc_gt, zc_le, zlt_t, zlt_f, zle_t, zle_f, zeq_t, zeq_f, lz, zadd, zsub, zmul, zneg, zb_e0, zb_e1, boo0, boo1, ua_s, ua_n, ua_ua, up_s, u2_s, u2_f, u2_c, u2_u2, Int.natCast_add, Int.zero_add, Int.add_zero, ↓reduceIte, ne_eq, not_true_eq_false, not_false_eq_true, Int.natCast_one, ↓zg_59_4, ↓zg_59_3, h3, h4, ↓k_X11_here_38, ↓k_X11_here_62]
    | succ f ih =>
      intro a I hf h
      have h' := h
      obtain ⟨h1, h2, h3, h4, h5, h6, h7⟩ := h
      have ej := h1 a h5 (by omega)
      have tb := h2 a
      by_cases c : T a = 32
      · have e : sk T n a = sk T n (a + 1) := gE_st (by omega) (decide_eq_true c)
        have := ih (a + 1) (u2 I 59 4 (a + 1)) (by omega) (h'.u (u2_f (by decide)) u2_s (by omega) (by omega))
        rw [u2_u2] at this
        rw [e, ← this, k_X11_here_0]
        simp (implicitDefEqProofs := false) (disch := omega) only [↓rI_s, ↓rV_s, ↓rI_e, ↓rV_e, zc_eq, zc_ne, zc_lt, zc_ge, zc_gt, zc_le, zlt_t, zlt_f, zle_t, zle_f, zeq_t, zeq_f, lz, zadd, zsub, zmul, zneg, zb_e0, zb_e1, boo0, boo1, ua_s, ua_n, ua_ua, up_s, u2_s, u2_f, u2_c, u2_u2, Int.natCast_add, Int.zero_add, Int.add_zero, ↓reduceIte, ne_eq, not_true_eq_false, not_false_eq_true, Int.natCast_one, ↓zg_59_4, ↓zg_59_3, h3, h4, ↓zg_59_9, zl_61, ej, ↓zp_59_4]
      · have e : sk T n a = a := gE_id (fun q => c (of_decide_eq_true q.2))
        have e33 : u2 I 59 4 a = I := by rw [← h4]; exact u2_id
        rw [e, if_pos (show a < n by omega), e33, k_X11_here_0]
        simp (implicitDefEqProofs := false) (disch := omega) only [↓rI_s, ↓rV_s, ↓rI_e, ↓rV_e, zc_eq, zc_ne, zc_lt, zc_ge, zc_gt, zc_le, zlt_t, zlt_f, zle_t, zle_f, zeq_t, zeq_f, lz, zadd, zsub, zmul, zneg, zb_e0, zb_e1, boo0, boo1, ua_s, ua_n, ua_ua, up_s, u2_s, u2_f, u2_c, u2_u2, Int.natCast_add, Int.zero_add, Int.add_zero, ↓reduceIte, ne_eq, not_true_eq_false, not_false_eq_true, Int.natCast_one, ↓zg_59_4, ↓zg_59_3, h3, h4, ↓zg_59_9, zl_61, ej, ↓k_X11_here_38, ↓k_X11_here_62]
  exact key _ a I rfl h
theorem c_fail {k p : Int} (hd : 1 ≤ d) : q_call q_MT d 104 [.ref 3, .int (zI k), .int (zI p)] (zM I A W) = some (.inl (some (.int (zI 0))), zM (u2 (u2 I 3 6 k) 3 7 p) A W) := by
  obtain ⟨d, rfl⟩ : ∃ e, d = e + 1 := ⟨d - 1, by omega⟩
  rw [cl_X9_fail]
  simp (implicitDefEqProofs := false) (disch := omega) only [↓rI_s, ↓rV_s, ↓rI_e, ↓rV_e, zc_eq, zc_ne, zc_lt, zc_ge, zc_gt, zc_le, zlt_t, zlt_f, zle_t, zle_f, zeq_t, zeq_f, lz, zadd, zsub, zmul, zneg, zb_e0, zb_e1, boo0, boo1, ua_s, ua_n, ua_ua, up_s, u2_s, u2_f, u2_c, u2_u2, Int.natCast_add, Int.zero_add, Int.add_zero, ↓reduceIte, ne_eq, not_true_eq_false, not_false_eq_true, Int.natCast_one, ↓k_X9_fail_0, zp_3_6, zp_3_7]
theorem c_sign {c : Int} (hd : 2 ≤ d) (h : cTx T n a I A) (hc : 1 ≤ c ∧ c ≤ 255) : match sgnS T n c a with
    | .inl (k, p) => ∃ I', fi xK I I' ∧ I' 3 6 = k ∧ I' 3 7 = p ∧ q_call q_MT d 107 [.ref 3, .int (zI c)] (zM I A W) = some (.inl (some (.int (zI 0))), zM I' A W)
    | .inr e => ∃ I', fi xK I I' ∧ cTx T n e I' A ∧ I' 3 6 = I 3 6 ∧ I' 3 7 = I 3 7 ∧ q_call q_MT d 107 [.ref 3, .int (zI c)] (zM I A W) = some (.inl (some (.int (zI 1))), zM I' A W) := by
  obtain ⟨d, rfl⟩ : ∃ e, d = e + 1 := ⟨d - 1, by omega⟩
  have e := c_peek (W := W) (show 1 ≤ d by omega) h
  have tb := h.2.1 (sk T n a)
  have gb := sk_b (T := T) h.2.2.2.2.2.1
  have h5 := h.2.2.2.2.1
  have h7 := h.2.2.2.2.2.2
  unfold sgnS
  by_cases q : sk T n a < n ∧ T (sk T n a) = c
  · rw [if_pos q]
    rw [if_pos q.1] at e
    refine ⟨u2 (u2 (u2 I 3 3 (sk T n a)) 3 4 (sk T n a)) 3 3 (sk T n a + 1), ((fi.refl.f rfl).f rfl).f rfl, h.u (by rw [u2_f (by decide), u2_f (by decide), u2_f (by decide)]) u2_s (by omega) (by omega), by rw [u2_f (by decide), u2_f (by decide), u2_f (by decide)], by rw [u2_f (by decide), u2_f (by decide), u2_f (by decide)], ?_⟩
    rw [cl_X9_sign]
    simp (implicitDefEqProofs := false) (disch := omega) only [↓rI_s, ↓rV_s, ↓rI_e, ↓rV_e, zc_eq, zc_ne, zc_lt, zc_ge, zc_gt, zc_le, zlt_t, zlt_f, zle_t, zle_f, zeq_t, zeq_f, lz, zadd, zsub, zmul, zneg, zb_e0, zb_e1, boo0, boo1, ua_s, ua_n, ua_ua, up_s, u2_s, u2_f, u2_c, u2_u2, Int.natCast_add, Int.zero_add, Int.add_zero, ↓reduceIte, ne_eq, not_true_eq_false, not_false_eq_true, Int.natCast_one, ↓k_X9_sign_0, ↓mc_3, e, ↓zg_3_3, ↓zp_3_3]
  · rw [if_neg q]
    have ef := c_fail (I := u2 (u2 I 3 3 (sk T n a)) 3 4 (sk T n a)) (A := A) (W := W) (d := d) (k := 1) (p := sk T n a) (by omega)
    refine ⟨u2 (u2 (u2 (u2 I 3 3 (sk T n a)) 3 4 (sk T n a)) 3 6 1) 3 7 (sk T n a), (((fi.refl.f rfl).f rfl).f rfl).f rfl, by rw [u2_f (by decide), u2_s], u2_s, ?_⟩
    rw [cl_X9_sign]
    by_cases q2 : sk T n a < n
    · rw [if_pos q2] at e
      simp (implicitDefEqProofs := false) (disch := omega) only [↓rI_s, ↓rV_s, ↓rI_e, ↓rV_e, zc_eq, zc_ne, zc_lt, zc_ge, zc_gt, zc_le, zlt_t, zlt_f, zle_t, zle_f, zeq_t, zeq_f, lz, zadd, zsub, zmul, zneg, zb_e0, zb_e1, boo0, boo1, ua_s, ua_n, ua_ua, up_s, u2_s, u2_f, u2_c, u2_u2, Int.natCast_add, Int.zero_add, Int.add_zero, ↓reduceIte, ne_eq, not_true_eq_false, not_false_eq_true, Int.natCast_one, ↓k_X9_sign_0, ↓mc_3, e, ↓zg_3_4, ef]
    · rw [if_neg q2] at e
      simp (implicitDefEqProofs := false) (disch := omega) only [↓rI_s, ↓rV_s, ↓rI_e, ↓rV_e, zc_eq, zc_ne, zc_lt, zc_ge, zc_gt, zc_le, zlt_t, zlt_f, zle_t, zle_f, zeq_t, zeq_f, lz, zadd, zsub, zmul, zneg, zb_e0, zb_e1, boo0, boo1, ua_s, ua_n, ua_ua, up_s, u2_s, u2_f, u2_c, u2_u2, Int.natCast_add, Int.zero_add, Int.add_zero, ↓reduceIte, ne_eq, not_true_eq_false, not_false_eq_true, Int.natCast_one, ↓k_X9_sign_0, ↓mc_3, e, ↓zg_3_4, ef]
theorem m_fine (hd : 1 ≤ d) (hb : wI (I 59 5)) : q_call q_MT d 168 [.ref 59] (zM I A W) = some (.inl (some (.int (zI (zb (I 59 5 = -1))))), zM I A W) := by
  obtain ⟨d, rfl⟩ : ∃ e, d = e + 1 := ⟨d - 1, by omega⟩
  rw [cl_X11_fine]
  by_cases q : I 59 5 = -1
  · rw [zb_t q]
    simp (implicitDefEqProofs := false) (disch := omega) only [↓rI_s, ↓rV_s, ↓rI_e, ↓rV_e, zc_eq, zc_ne, zc_lt, zc_ge, zc_gt, zc_le, zlt_t, zlt_f, zle_t, zle_f, zeq_t, zeq_f, lz, zadd, zsub, zmul, zneg, zb_e0, zb_e1, boo0, boo1, ua_s, ua_n, ua_ua, up_s, u2_s, u2_f, u2_c, u2_u2, Int.natCast_add, Int.zero_add, Int.add_zero, ↓reduceIte, ne_eq, not_true_eq_false, not_false_eq_true, Int.natCast_one, ↓k_X11_fine_0, ↓k_X11_fine_13, ↓zg_59_5, q]
  · rw [zb_f q]
    simp (implicitDefEqProofs := false) (disch := omega) only [↓rI_s, ↓rV_s, ↓rI_e, ↓rV_e, zc_eq, zc_ne, zc_lt, zc_ge, zc_gt, zc_le, zlt_t, zlt_f, zle_t, zle_f, zeq_t, zeq_f, lz, zadd, zsub, zmul, zneg, zb_e0, zb_e1, boo0, boo1, ua_s, ua_n, ua_ua, up_s, u2_s, u2_f, u2_c, u2_u2, Int.natCast_add, Int.zero_add, Int.add_zero, ↓reduceIte, ne_eq, not_true_eq_false, not_false_eq_true, Int.natCast_one, ↓k_X11_fine_0, ↓k_X11_fine_13, ↓zg_59_5]
theorem m_wrong {k p : Int} (hd : 1 ≤ d) (h : I 59 5 = -1) : q_call q_MT d 169 [.ref 59, .int (zI k), .int (zI p)] (zM I A W) = some (.inl none, zM (u2 (u2 I 59 5 p) 59 6 k) A W) := by
  obtain ⟨d, rfl⟩ : ∃ e, d = e + 1 := ⟨d - 1, by omega⟩
  rw [cl_X11_wrong]
  simp (implicitDefEqProofs := false) (disch := omega) only [↓rI_s, ↓rV_s, ↓rI_e, ↓rV_e, zc_eq, zc_ne, zc_lt, zc_ge, zc_gt, zc_le, zlt_t, zlt_f, zle_t, zle_f, zeq_t, zeq_f, lz, zadd, zsub, zmul, zneg, zb_e0, zb_e1, boo0, boo1, ua_s, ua_n, ua_ua, up_s, u2_s, u2_f, u2_c, u2_u2, Int.natCast_add, Int.zero_add, Int.add_zero, ↓reduceIte, ne_eq, not_true_eq_false, not_false_eq_true, Int.natCast_one, ↓k_X11_wrong_0, ↓zg_59_5, zp_59_5, zp_59_6, h]
theorem m_wrong_b {k p : Int} (hd : 1 ≤ d) (h : I 59 5 ≠ -1) (hb : wI (I 59 5)) : q_call q_MT d 169 [.ref 59, .int (zI k), .int (zI p)] (zM I A W) = some (.inl none, zM I A W) := by
  obtain ⟨d, rfl⟩ : ∃ e, d = e + 1 := ⟨d - 1, by omega⟩
  rw [cl_X11_wrong]
  simp (implicitDefEqProofs := false) (disch := omega) only [↓rI_s, ↓rV_s, ↓rI_e, ↓rV_e, zc_eq, zc_ne, zc_lt, zc_ge, zc_gt, zc_le, zlt_t, zlt_f, zle_t, zle_f, zeq_t, zeq_f, lz, zadd, zsub, zmul, zneg, zb_e0, zb_e1, boo0, boo1, ua_s, ua_n, ua_ua, up_s, u2_s, u2_f, u2_c, u2_u2, Int.natCast_add, Int.zero_add, Int.add_zero, ↓reduceIte, ne_eq, not_true_eq_false, not_false_eq_true, Int.natCast_one, ↓k_X11_wrong_0, ↓zg_59_5, zp_59_5, zp_59_6]
theorem m_sign {c : Int} (hd : 2 ≤ d) (h : mTx T n a I A) (hc : 1 ≤ c ∧ c ≤ 255) (hb : I 59 5 = -1) : match sgnS T n c a with
    | .inl (k, p) => ∃ I', fi yK I I' ∧ mTx T n (sk T n a) I' A ∧ I' 59 6 = k ∧ I' 59 5 = p ∧ q_call q_MT d 177 [.ref 59, .int (zI c)] (zM I A W) = some (.inl none, zM I' A W)
    | .inr e => ∃ I', fi yK I I' ∧ mTx T n e I' A ∧ I' 59 5 = -1 ∧ q_call q_MT d 177 [.ref 59, .int (zI c)] (zM I A W) = some (.inl none, zM I' A W) := by
  obtain ⟨d, rfl⟩ : ∃ e, d = e + 1 := ⟨d - 1, by omega⟩
  have e := m_here (W := W) (show 1 ≤ d by omega) h
  have tb := h.2.1 (sk T n a)
  have gb := sk_b (T := T) h.2.2.2.2.2.1
  have h5 := h.2.2.2.2.1
  have h7 := h.2.2.2.2.2.2
  have f1 := m_fine (I := I) (A := A) (W := W) (d := d) (by omega) (by omega)
  rw [zb_t hb] at f1
  have b2 : u2 I 59 4 (sk T n a) 59 5 = -1 := by rw [u2_f (by decide)]; exact hb
  have f2 := m_fine (I := u2 I 59 4 (sk T n a)) (A := A) (W := W) (d := d) (by omega) (by omega)
  rw [zb_t b2] at f2
  unfold sgnS
  by_cases q : sk T n a < n ∧ T (sk T n a) = c
  · rw [if_pos q]
    rw [if_pos q.1] at e
    refine ⟨u2 I 59 4 (sk T n a + 1), fi.refl.f rfl, h.u (u2_f (by decide)) u2_s (by omega) (by omega), by rw [u2_f (by decide)]; exact hb, ?_⟩
    rw [cl_X11_sign]
    simp (implicitDefEqProofs := false) (disch := omega) only [↓rI_s, ↓rV_s, ↓rI_e, ↓rV_e, zc_eq, zc_ne, zc_lt, zc_ge, zc_gt, zc_le, zlt_t, zlt_f, zle_t, zle_f, zeq_t, zeq_f, lz, zadd, zsub, zmul, zneg, zb_e0, zb_e1, boo0, boo1, ua_s, ua_n, ua_ua, up_s, u2_s, u2_f, u2_c, u2_u2, Int.natCast_add, Int.zero_add, Int.add_zero, ↓reduceIte, ne_eq, not_true_eq_false, not_false_eq_true, Int.natCast_one, ↓k_X11_sign_0, ↓mc_59, f1, e, ↓k_X11_sign_24, f2, ↓zg_59_4, ↓zp_59_4, ↓k_X11_sign_41]
  · rw [if_neg q]
    have ew := m_wrong (I := u2 I 59 4 (sk T n a)) (A := A) (W := W) (d := d) (k := 1) (p := sk T n a) (by omega) b2
    have f3 := m_fine (I := u2 (u2 (u2 I 59 4 (sk T n a)) 59 5 (sk T n a)) 59 6 1) (A := A) (W := W) (d := d) (by omega) (by rw [u2_f (by decide), u2_s]; omega)
    rw [zb_f (by rw [u2_f (by decide), u2_s]; omega)] at f3
    refine ⟨u2 (u2 (u2 I 59 4 (sk T n a)) 59 5 (sk T n a)) 59 6 1, ((fi.refl.f rfl).f rfl).f rfl, h.u (by rw [u2_f (by decide), u2_f (by decide), u2_f (by decide)]) (by rw [u2_f (by decide), u2_f (by decide), u2_s]) (by omega) (by omega), u2_s, by rw [u2_f (by decide), u2_s], ?_⟩
    rw [cl_X11_sign]
    by_cases q2 : sk T n a < n
    · rw [if_pos q2] at e
      simp (implicitDefEqProofs := false) (disch := omega) only [↓rI_s, ↓rV_s, ↓rI_e, ↓rV_e, zc_eq, zc_ne, zc_lt, zc_ge, zc_gt, zc_le, zlt_t, zlt_f, zle_t, zle_f, zeq_t, zeq_f, lz, zadd, zsub, zmul, zneg, zb_e0, zb_e1, boo0, boo1, ua_s, ua_n, ua_ua, up_s, u2_s, u2_f, u2_c, u2_u2, Int.natCast_add, Int.zero_add, Int.add_zero, ↓reduceIte, ne_eq, not_true_eq_false, not_false_eq_true, Int.natCast_one, ↓k_X11_sign_0, ↓mc_59, f1, e, ↓zg_59_4, ew, ↓k_X11_sign_24, f3, ↓k_X11_sign_41]
    · rw [if_neg q2] at e
      simp (implicitDefEqProofs := false) (disch := omega) only [↓rI_s, ↓rV_s, ↓rI_e, ↓rV_e, zc_eq, zc_ne, zc_lt, zc_ge, zc_gt, zc_le, zlt_t, zlt_f, zle_t, zle_f, zeq_t, zeq_f, lz, zadd, zsub, zmul, zneg, zb_e0, zb_e1, boo0, boo1, ua_s, ua_n, ua_ua, up_s, u2_s, u2_f, u2_c, u2_u2, Int.natCast_add, Int.zero_add, Int.add_zero, ↓reduceIte, ne_eq, not_true_eq_false, not_false_eq_true, Int.natCast_one, ↓k_X11_sign_0, ↓mc_59, f1, e, ↓zg_59_4, ew, ↓k_X11_sign_24, f3, ↓k_X11_sign_41]
theorem m_sign_b {c : Int} (hd : 2 ≤ d) (hb : I 59 5 ≠ -1) (hw : wI (I 59 5)) : q_call q_MT d 177 [.ref 59, .int (zI c)] (zM I A W) = some (.inl none, zM I A W) := by
  obtain ⟨d, rfl⟩ : ∃ e, d = e + 1 := ⟨d - 1, by omega⟩
  have f1 := m_fine (I := I) (A := A) (W := W) (d := d) (by omega) hw
  rw [zb_f hb] at f1
  rw [cl_X11_sign]
  simp (implicitDefEqProofs := false) (disch := omega) only [↓rI_s, ↓rV_s, ↓rI_e, ↓rV_e, zc_eq, zc_ne, zc_lt, zc_ge, zc_gt, zc_le, zlt_t, zlt_f, zle_t, zle_f, zeq_t, zeq_f, lz, zadd, zsub, zmul, zneg, zb_e0, zb_e1, boo0, boo1, ua_s, ua_n, ua_ua, up_s, u2_s, u2_f, u2_c, u2_u2, Int.natCast_add, Int.zero_add, Int.add_zero, ↓reduceIte, ne_eq, not_true_eq_false, not_false_eq_true, Int.natCast_one, ↓k_X11_sign_0, ↓mc_59, f1, ↓k_X11_sign_24, ↓k_X11_sign_41]
theorem c_number {lo hi : Int} (hd : 2 ≤ d) (h : cTx T n a I A) (hl : -10 ≤ lo ∧ lo ≤ 1000) (hh : -10 ≤ hi ∧ hi ≤ 1000) : match numS T n lo hi a with
    | .inl (k, p) => ∃ I', fi xK I I' ∧ I' 3 6 = k ∧ I' 3 7 = p ∧ q_call q_MT d 108 [.ref 3, .int (zI lo), .int (zI hi)] (zM I A W) = some (.inl (some (.int (zI 0))), zM I' A W)
    | .inr (e, v) => ∃ I', fi xK I I' ∧ cTx T n e I' A ∧ I' 3 4 = sk T n a ∧ I' 3 5 = v ∧ I' 3 6 = I 3 6 ∧ I' 3 7 = I 3 7 ∧ q_call q_MT d 108 [.ref 3, .int (zI lo), .int (zI hi)] (zM I A W) = some (.inl (some (.int (zI 1))), zM I' A W) := by
  obtain ⟨d, rfl⟩ : ∃ e, d = e + 1 := ⟨d - 1, by omega⟩
  have e := c_peek (W := W) (show 1 ≤ d by omega) h
  have tb := h.2.1 (sk T n a)
  have gb := sk_b (T := T) h.2.2.2.2.2.1
  have h5 := h.2.2.2.2.1
  have h7 := h.2.2.2.2.2.2
  unfold numS
  generalize hbe : sk T n a = b at *
  by_cases q : b < n ∧ 48 ≤ T b ∧ T b ≤ 57
  · rw [if_pos q]
    rw [if_pos q.1] at e
    have dg := gE_b (q := qD T) (n := n) (a := b) (by omega)
    have I1e : ∀ I1 : Nat → Nat → Int, I1 = u2 (u2 (u2 I 3 3 b) 3 4 b) 3 5 0 → True := fun _ _ => trivial
    -- the digits
    have loop : ∀ (f : Nat) (k : Nat) (J : Nat → Nat → Int) (l3 : Value), (gE (qD T) n b - (b + k)).toNat = f → (b : Int) + k ≤ gE (qD T) n b → fi xK I J → J 3 2 = n → J 3 3 = b + k → J 3 5 = acC T b k → J 3 4 = b → J 3 6 = I 3 6 → J 3 7 = I 3 7 → ∃ J', fi xK I J' ∧ J' 3 2 = n ∧ J' 3 3 = gE (qD T) n b ∧ J' 3 5 = acC T b (gE (qD T) n b - b).toNat ∧ J' 3 4 = b ∧ J' 3 6 = I 3 6 ∧ J' 3 7 = I 3 7 ∧ q_run qm_X9_number (q_call q_MT d) 32 [.ref 3, .int (zI lo), .int (zI hi), l3] [] (zM J A W) = q_run qm_X9_number (q_call q_MT d) 113 [.ref 3, .int (zI lo), .int (zI hi), l3] [] (zM J' A W) := by
      intro f
      induction f with
      | zero =>
        intro k J l3 hf hk fJ e2 e3 e5 e4 e6 e7
        have ek : b + (k : Int) = gE (qD T) n b := by omega
        refine ⟨J, fJ, e2, by rw [e3]; exact ek, by rw [e5, ← ek, show (b + (k : Int) - b).toNat = k by omega], e4, e6, e7, ?_⟩
        rw [k_X9_number_32]
        rw [ek] at e3
        by_cases c : gE (qD T) n b < n
        · have nd : ¬ (48 ≤ T (gE (qD T) n b) ∧ T (gE (qD T) n b) ≤ 57) := fun q => dg.2.2.1 ⟨c, decide_eq_true q⟩
          have ej := h.1 (gE (qD T) n b) (by omega) c
          have sf := sg_f (T (gE (qD T) n b))
          have tb2 := h.2.1 (gE (qD T) n b)
          by_cases c2 : sg (T (gE (qD T) n b)) < 48
          · simp (implicitDefEqProofs := false) (disch := omega) only [↓rI_s, ↓rV_s, ↓rI_e, ↓rV_e, zc_eq, zc_ne, zc_lt, zc_ge, zc_gt, zc_le, zlt_t, zlt_f, zle_t, zle_f, zeq_t, zeq_f, lz, zadd, zsub, zmul, zneg, zb_e0, zb_e1, boo0, boo1, ua_s, ua_n, ua_ua, up_s, u2_s, u2_f, u2_c, u2_u2, Int.natCast_add, Int.zero_add, Int.add_zero, ↓reduceIte, ne_eq, not_true_eq_false, not_false_eq_true, Int.natCast_one, ↓zg_3_3, ↓zg_3_2, e2, e3, ↓zg_3_0, zl_4, ej]
          · simp (implicitDefEqProofs := false) (disch := omega) only [↓rI_s, ↓rV_s, ↓rI_e, ↓rV_e, zc_eq, zc_ne, zc_lt, zc_ge, zc_gt, zc_le, zlt_t, zlt_f, zle_t, zle_f, zeq_t, zeq_f, lz, zadd, zsub, zmul, zneg, zb_e0, zb_e1, boo0, boo1, ua_s, ua_n, ua_ua, up_s, u2_s, u2_f, u2_c, u2_u2, Int.natCast_add, Int.zero_add, Int.add_zero, ↓reduceIte, ne_eq, not_true_eq_false, not_false_eq_true, Int.natCast_one, ↓zg_3_3, ↓zg_3_2, e2, e3, ↓zg_3_0, zl_4, ej]
        · simp (implicitDefEqProofs := false) (disch := omega) only [↓rI_s, ↓rV_s, ↓rI_e, ↓rV_e, zc_eq, zc_ne, zc_lt, zc_ge, zc_gt, zc_le, zlt_t, zlt_f, zle_t, zle_f, zeq_t, zeq_f, lz, zadd, zsub, zmul, zneg, zb_e0, zb_e1, boo0, boo1, ua_s, ua_n, ua_ua, up_s, u2_s, u2_f, u2_c, u2_u2, Int.natCast_add, Int.zero_add, Int.add_zero, ↓reduceIte, ne_eq, not_true_eq_false, not_false_eq_true, Int.natCast_one, ↓zg_3_3, ↓zg_3_2, e2, e3]
      | succ f ih =>
        intro k J l3 hf hk fJ e2 e3 e5 e4 e6 e7
        have hd2 := of_decide_eq_true (dg.2.2.2 (b + k) (by omega) (by omega))
        have ej := h.1 (b + k) (by omega) (by omega)
        have sf := sg_f (T (b + k))
        have ar := ac_r (T := T) (b := b) k (fun j hj => of_decide_eq_true (dg.2.2.2 (b + j) (by omega) (by omega)))
        obtain ⟨J', x1, x2, x3, x4, x5, x6, x7, x8⟩ := ih (k + 1) (u2 (u2 J 3 5 (acC T b (k + 1))) 3 3 (b + k + 1)) l3 (by omega) (by omega) ((fJ.f rfl).f rfl) (by rw [u2_f (by decide), u2_f (by decide)]; exact e2) (by rw [u2_s]; omega) (by rw [u2_f (by decide), u2_s]) (by rw [u2_f (by decide), u2_f (by decide)]; exact e4) (by rw [u2_f (by decide), u2_f (by decide)]; exact e6) (by rw [u2_f (by decide), u2_f (by decide)]; exact e7)
        refine ⟨J', x1, x2, x3, x4, x5, x6, x7, ?_⟩
        rw [← x8, k_X9_number_32]
        have es : sg (T (b + k)) = T (b + k) := sf.1 (by omega)
        rw [es] at ej
        simp (implicitDefEqProofs := false) (disch := omega) only [↓rI_s, ↓rV_s, ↓rI_e, ↓rV_e, zc_eq, zc_ne, zc_lt, zc_ge, zc_gt, zc_le, zlt_t, zlt_f, zle_t, zle_f, zeq_t, zeq_f, lz, zadd, zsub, zmul, zneg, zb_e0, zb_e1, boo0, boo1, ua_s, ua_n, ua_ua, up_s, u2_s, u2_f, u2_c, u2_u2, Int.natCast_add, Int.zero_add, Int.add_zero, ↓reduceIte, ne_eq, not_true_eq_false, not_false_eq_true, Int.natCast_one, ↓zg_3_3, ↓zg_3_2, e2, e3, ↓zg_3_0, zl_4, ej, ↓zg_3_5, e5, zif, ↓zp_3_5, ↓zp_3_3]
        rfl
    obtain ⟨J, x1, x2, x3, x4, x5, x6, x7, x8⟩ := loop _ 0 (u2 (u2 (u2 I 3 3 b) 3 4 b) 3 5 0) (.int (zI (T b))) rfl (by omega) (((fi.refl.f rfl).f rfl).f rfl) (by rw [u2_f (by decide), u2_f (by decide), u2_f (by decide)]; exact h.2.2.1) (by rw [u2_f (by decide), u2_f (by decide), u2_s]; omega) (by rw [u2_s]; rfl) (by rw [u2_f (by decide), u2_s]) (by rw [u2_f (by decide), u2_f (by decide), u2_f (by decide)]) (by rw [u2_f (by decide), u2_f (by decide), u2_f (by decide)])
    have ar := ac_r (T := T) (b := b) (gE (qD T) n b - b).toNat (fun j hj => of_decide_eq_true (dg.2.2.2 (b + j) (by omega) (by omega)))
    have to113 : q_call q_MT (d + 1) 108 [.ref 3, .int (zI lo), .int (zI hi)] (zM I A W) = q_run qm_X9_number (q_call q_MT d) 113 [.ref 3, .int (zI lo), .int (zI hi), .int (zI (T b))] [] (zM J A W) := by
      rw [← x8, cl_X9_number]
      simp (implicitDefEqProofs := false) (disch := omega) only [↓rI_s, ↓rV_s, ↓rI_e, ↓rV_e, zc_eq, zc_ne, zc_lt, zc_ge, zc_gt, zc_le, zlt_t, zlt_f, zle_t, zle_f, zeq_t, zeq_f, lz, zadd, zsub, zmul, zneg, zb_e0, zb_e1, boo0, boo1, ua_s, ua_n, ua_ua, up_s, u2_s, u2_f, u2_c, u2_u2, Int.natCast_add, Int.zero_add, Int.add_zero, ↓reduceIte, ne_eq, not_true_eq_false, not_false_eq_true, Int.natCast_one, ↓k_X9_number_0, ↓mc_3, e, ↓zp_3_5]
    rw [to113, k_X9_number_113]
    by_cases c : lo ≤ acC T b (gE (qD T) n b - b).toNat ∧ acC T b (gE (qD T) n b - b).toNat ≤ hi
    · rw [if_pos c]
      refine ⟨J, x1, h.u (x2.trans h.2.2.1.symm) x3 (by omega) (by omega), x5, x4, x6, x7, ?_⟩
      simp (implicitDefEqProofs := false) (disch := omega) only [↓rI_s, ↓rV_s, ↓rI_e, ↓rV_e, zc_eq, zc_ne, zc_lt, zc_ge, zc_gt, zc_le, zlt_t, zlt_f, zle_t, zle_f, zeq_t, zeq_f, lz, zadd, zsub, zmul, zneg, zb_e0, zb_e1, boo0, boo1, ua_s, ua_n, ua_ua, up_s, u2_s, u2_f, u2_c, u2_u2, Int.natCast_add, Int.zero_add, Int.add_zero, ↓reduceIte, ne_eq, not_true_eq_false, not_false_eq_true, Int.natCast_one, ↓zg_3_5, x4, ↓k_X9_number_141, ↓k_X9_number_146]
    · rw [if_neg c]
      have ef := c_fail (I := J) (A := A) (W := W) (d := d) (k := 2) (p := b) (by omega)
      refine ⟨u2 (u2 J 3 6 2) 3 7 b, (x1.f rfl).f rfl, by rw [u2_f (by decide), u2_s], u2_s, ?_⟩
      by_cases c2 : acC T b (gE (qD T) n b - b).toNat < lo
      · simp (implicitDefEqProofs := false) (disch := omega) only [↓rI_s, ↓rV_s, ↓rI_e, ↓rV_e, zc_eq, zc_ne, zc_lt, zc_ge, zc_gt, zc_le, zlt_t, zlt_f, zle_t, zle_f, zeq_t, zeq_f, lz, zadd, zsub, zmul, zneg, zb_e0, zb_e1, boo0, boo1, ua_s, ua_n, ua_ua, up_s, u2_s, u2_f, u2_c, u2_u2, Int.natCast_add, Int.zero_add, Int.add_zero, ↓reduceIte, ne_eq, not_true_eq_false, not_false_eq_true, Int.natCast_one, ↓zg_3_5, x4, ↓k_X9_number_129, ↓zg_3_4, x5, ↓mc_3, ef, ↓k_X9_number_141, ↓k_X9_number_146]
      · simp (implicitDefEqProofs := false) (disch := omega) only [↓rI_s, ↓rV_s, ↓rI_e, ↓rV_e, zc_eq, zc_ne, zc_lt, zc_ge, zc_gt, zc_le, zlt_t, zlt_f, zle_t, zle_f, zeq_t, zeq_f, lz, zadd, zsub, zmul, zneg, zb_e0, zb_e1, boo0, boo1, ua_s, ua_n, ua_ua, up_s, u2_s, u2_f, u2_c, u2_u2, Int.natCast_add, Int.zero_add, Int.add_zero, ↓reduceIte, ne_eq, not_true_eq_false, not_false_eq_true, Int.natCast_one, ↓zg_3_5, x4, ↓k_X9_number_129, ↓zg_3_4, x5, ↓mc_3, ef, ↓k_X9_number_141, ↓k_X9_number_146]
  · rw [if_neg q]
    have ef := c_fail (I := u2 (u2 I 3 3 b) 3 4 b) (A := A) (W := W) (d := d) (k := 1) (p := b) (by omega)
    refine ⟨u2 (u2 (u2 (u2 I 3 3 b) 3 4 b) 3 6 1) 3 7 b, (((fi.refl.f rfl).f rfl).f rfl).f rfl, by rw [u2_f (by decide), u2_s], u2_s, ?_⟩
    rw [cl_X9_number]
    by_cases q2 : b < n
    · rw [if_pos q2] at e
      by_cases q3 : T b < 48
      · simp (implicitDefEqProofs := false) (disch := omega) only [↓rI_s, ↓rV_s, ↓rI_e, ↓rV_e, zc_eq, zc_ne, zc_lt, zc_ge, zc_gt, zc_le, zlt_t, zlt_f, zle_t, zle_f, zeq_t, zeq_f, lz, zadd, zsub, zmul, zneg, zb_e0, zb_e1, boo0, boo1, ua_s, ua_n, ua_ua, up_s, u2_s, u2_f, u2_c, u2_u2, Int.natCast_add, Int.zero_add, Int.add_zero, ↓reduceIte, ne_eq, not_true_eq_false, not_false_eq_true, Int.natCast_one, ↓k_X9_number_0, ↓mc_3, e, ↓k_X9_number_17, ↓zg_3_4, ef]
      · simp (implicitDefEqProofs := false) (disch := omega) only [↓rI_s, ↓rV_s, ↓rI_e, ↓rV_e, zc_eq, zc_ne, zc_lt, zc_ge, zc_gt, zc_le, zlt_t, zlt_f, zle_t, zle_f, zeq_t, zeq_f, lz, zadd, zsub, zmul, zneg, zb_e0, zb_e1, boo0, boo1, ua_s, ua_n, ua_ua, up_s, u2_s, u2_f, u2_c, u2_u2, Int.natCast_add, Int.zero_add, Int.add_zero, ↓reduceIte, ne_eq, not_true_eq_false, not_false_eq_true, Int.natCast_one, ↓k_X9_number_0, ↓mc_3, e, ↓k_X9_number_17, ↓zg_3_4, ef]
    · rw [if_neg q2] at e
      simp (implicitDefEqProofs := false) (disch := omega) only [↓rI_s, ↓rV_s, ↓rI_e, ↓rV_e, zc_eq, zc_ne, zc_lt, zc_ge, zc_gt, zc_le, zlt_t, zlt_f, zle_t, zle_f, zeq_t, zeq_f, lz, zadd, zsub, zmul, zneg, zb_e0, zb_e1, boo0, boo1, ua_s, ua_n, ua_ua, up_s, u2_s, u2_f, u2_c, u2_u2, Int.natCast_add, Int.zero_add, Int.add_zero, ↓reduceIte, ne_eq, not_true_eq_false, not_false_eq_true, Int.natCast_one, ↓k_X9_number_0, ↓mc_3, e, ↓k_X9_number_17, ↓zg_3_4, ef]
end TX
