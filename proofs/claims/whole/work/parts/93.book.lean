--DEPS 92.undom
/-! Texts: what is common; BOOK. -/
abbrev zE (α : Type) : Type := (Int × Int) ⊕ α
def bd {α β : Type} (x : zE α) (f : α → zE β) : zE β := match x with
  | .inl e => .inl e
  | .inr v => f v
theorem numS_r {T : Int → Int} {n lo hi a e v : Int} (ha : a ≤ n) (h : numS T n lo hi a = .inr (e, v)) : a < e ∧ e ≤ n ∧ lo ≤ v ∧ v ≤ hi ∧ a ≤ sk T n a ∧ sk T n a < e := by
  unfold numS at h
  have sb := sk_b (T := T) ha
  split at h
  · rename_i c
    split at h
    · rename_i c2
      have dg := gE_b (q := qD T) (n := n) (a := sk T n a) (by omega)
      have st : gE (qD T) n (sk T n a) = gE (qD T) n (sk T n a + 1) := gE_st c.1 (decide_eq_true c.2)
      have dg2 := gE_b (q := qD T) (n := n) (a := sk T n a + 1) (by omega)
      injection h with h
      injection h with h1 h2
      subst h2
      exact ⟨by omega, by omega, c2.1, c2.2, sb.1, by omega⟩
    · cases h
  · cases h
theorem numS_l {T : Int → Int} {n lo hi a k p : Int} (ha : a ≤ n) (h : numS T n lo hi a = .inl (k, p)) : (k = 1 ∨ k = 2) ∧ p = sk T n a ∧ a ≤ p ∧ p ≤ n := by
  unfold numS at h
  have sb := sk_b (T := T) ha
  split at h
  · split at h
    · cases h
    · cases h
      exact ⟨.inr rfl, rfl, sb.1, sb.2⟩
  · cases h
    exact ⟨.inl rfl, rfl, sb.1, sb.2⟩
theorem sgnS_r {T : Int → Int} {n c a e : Int} (ha : a ≤ n) (h : sgnS T n c a = .inr e) : a < e ∧ e ≤ n := by
  unfold sgnS at h
  have sb := sk_b (T := T) ha
  split at h
  · rename_i q
    injection h with h
    omega
  · cases h
theorem sgnS_l {T : Int → Int} {n c a k p : Int} (ha : a ≤ n) (h : sgnS T n c a = .inl (k, p)) : k = 1 ∧ p = sk T n a ∧ a ≤ p ∧ p ≤ n := by
  unfold sgnS at h
  have sb := sk_b (T := T) ha
  split at h
  · cases h
  · cases h
    exact ⟨rfl, rfl, sb.1, sb.2⟩
/-- what the class's reading makes of it -/
def cE {β : Type} (T : Int → Int) (n : Int) (K : List (Nat × Nat)) (L : List Nat) (I : Nat → Nat → Int) (A : Nat → Int → Int) (W : qWt) (r : qR) (P : β → (Nat → Nat → Int) → (Nat → Int → Int) → Prop) (x : zE (Int × β)) : Prop := match x with
  | .inl (k, p) => ∃ I' A', fi K I I' ∧ fr L A A' ∧ I' 3 6 = k ∧ I' 3 7 = p ∧ r = some (.inl (some (.int (zI 0))), zM I' A' W)
  | .inr (e, v) => ∃ I' A', fi K I I' ∧ fr L A A' ∧ cTx T n e I' A' ∧ I' 3 7 = I 3 7 ∧ P v I' A' ∧ r = some (.inl (some (.int (zI 1))), zM I' A' W)
theorem cE.bad {β : Type} {T : Int → Int} {n : Int} {K : List (Nat × Nat)} {L : List Nat} {I : Nat → Nat → Int} {A : Nat → Int → Int} {W : qWt} {r : qR} {P : β → (Nat → Nat → Int) → (Nat → Int → Int) → Prop} {k p : Int} (I' : Nat → Nat → Int) (A' : Nat → Int → Int) (h1 : fi K I I') (h2 : fr L A A') (h3 : I' 3 6 = k) (h4 : I' 3 7 = p) (h5 : r = some (.inl (some (.int (zI 0))), zM I' A' W)) : cE T n K L I A W r P (.inl (k, p)) := ⟨I', A', h1, h2, h3, h4, h5⟩
theorem cE.ok {β : Type} {T : Int → Int} {n : Int} {K : List (Nat × Nat)} {L : List Nat} {I : Nat → Nat → Int} {A : Nat → Int → Int} {W : qWt} {r : qR} {P : β → (Nat → Nat → Int) → (Nat → Int → Int) → Prop} {e : Int} {v : β} (I' : Nat → Nat → Int) (A' : Nat → Int → Int) (h1 : fi K I I') (h2 : fr L A A') (h3 : cTx T n e I' A') (h4 : I' 3 7 = I 3 7) (h5 : P v I' A') (h6 : r = some (.inl (some (.int (zI 1))), zM I' A' W)) : cE T n K L I A W r P (.inr (e, v)) := ⟨I', A', h1, h2, h3, h4, h5, h6⟩
theorem cTx.fr {T : Int → Int} {n a : Int} {I : Nat → Nat → Int} {A A' : Nat → Int → Int} {L : List Nat} (h : cTx T n a I A) (f : fr L A A') (g : L.contains 4 = false) : cTx T n a I A' := by
  refine ⟨?_, h.2⟩
  rw [f 4 g]
  exact h.1
theorem mTx.fr {T : Int → Int} {n a : Int} {I : Nat → Nat → Int} {A A' : Nat → Int → Int} {L : List Nat} (h : mTx T n a I A) (f : fr L A A') (g : L.contains 61 = false) : mTx T n a I A' := by
  refine ⟨?_, h.2⟩
  rw [f 61 g]
  exact h.1
theorem cTx.fi {T : Int → Int} {n a : Int} {I I' : Nat → Nat → Int} {A : Nat → Int → Int} {K : List (Nat × Nat)} (h : cTx T n a I A) (f : fi K I I') (g : (K.contains (3, 2) || K.contains (3, 3)) = false) : cTx T n a I' A := by
  simp only [Bool.or_eq_false_iff] at g
  obtain ⟨h1, h2, h3, h4, h5⟩ := h
  exact ⟨h1, h2, (f 3 2 g.1).trans h3, (f 3 3 g.2).trans h4, h5⟩
theorem mTx.fi {T : Int → Int} {n a : Int} {I I' : Nat → Nat → Int} {A : Nat → Int → Int} {K : List (Nat × Nat)} (h : mTx T n a I A) (f : fi K I I') (g : (K.contains (59, 3) || K.contains (59, 4)) = false) : mTx T n a I' A := by
  simp only [Bool.or_eq_false_iff] at g
  obtain ⟨h1, h2, h3, h4, h5⟩ := h
  exact ⟨h1, h2, (f 59 3 g.1).trans h3, (f 59 4 g.2).trans h4, h5⟩
abbrev oK : List (Nat × Nat) := [(3, 1), (3, 2), (3, 3), (3, 4), (3, 5), (3, 6), (3, 7)]
section BK
variable {d : Nat} {I : Nat → Nat → Int} {A : Nat → Int → Int} {W : qWt} {T : Int → Int} {n a : Int}
/-- the tape -/
def tpC (T : Int → Int) (I : Nat → Nat → Int) (A : Nat → Int → Int) : Prop := (∀ j : Int, 0 ≤ T j ∧ T j ≤ 255) ∧ (∀ j : Int, 0 ≤ j → j < I 3 1 → A 4 j = sg (T j)) ∧ 0 ≤ I 3 1 ∧ I 3 1 ≤ 600
def tpM (T : Int → Int) (I : Nat → Nat → Int) (A : Nat → Int → Int) : Prop := (∀ j : Int, 0 ≤ T j ∧ T j ≤ 255) ∧ (∀ j : Int, 0 ≤ j → j < I 59 2 → A 61 j = T j) ∧ 0 ≤ I 59 2 ∧ I 59 2 ≤ 600
theorem c_openText {m : Int} (hd : 3 ≤ d) (h : tpC T I A) (h0 : 0 ≤ n ∧ n ≤ m ∧ n ≤ I 3 1) (hm : m ≤ 600) : ∃ I', fi oK I I' ∧ cTx T n 0 I' A ∧ I' 3 1 = 0 ∧ I' 3 7 = -1 ∧ q_call q_MT d 153 [.ref 2, .int (zI n), .int (zI m)] (zM I A W) = some (.inl none, zM I' A W) := by
  obtain ⟨d, rfl⟩ : ∃ e, d = e + 1 := ⟨d - 1, by omega⟩
  obtain ⟨h1, h2, h3, h4⟩ := h
  obtain ⟨d, rfl⟩ : ∃ e, d = e + 1 := ⟨d - 1, by omega⟩
  have eo : q_call q_MT (d + 1) 102 [.ref 3, .int (zI n)] (zM I A W) = some (.inl none, zM (u2 (u2 (u2 (u2 (u2 (u2 (u2 I 3 2 n) 3 3 0) 3 4 0) 3 5 0) 3 6 0) 3 7 (-1)) 3 1 0) A W) := by
    rw [cl_X9_open]
    simp (implicitDefEqProofs := false) (disch := omega) only [↓rI_s, ↓rV_s, ↓rI_e, ↓rV_e, zc_eq, zc_ne, zc_lt, zc_ge, zc_gt, zc_le, zlt_t, zlt_f, zle_t, zle_f, zeq_t, zeq_f, lz, zadd, zsub, zmul, zneg, zb_e0, zb_e1, boo0, boo1, ua_s, ua_n, ua_ua, up_s, u2_s, u2_f, u2_c, u2_u2, Int.natCast_add, Int.zero_add, Int.add_zero, ↓reduceIte, ne_eq, not_true_eq_false, not_false_eq_true, Int.natCast_one, ↓k_X9_open_0, ↓zg_3_1, zp_3_2, zp_3_3, zp_3_4, zp_3_5, zp_3_6, zp_3_7, zp_3_1, zif]
  refine ⟨u2 (u2 (u2 (u2 (u2 (u2 (u2 I 3 2 n) 3 3 0) 3 4 0) 3 5 0) 3 6 0) 3 7 (-1)) 3 1 0, ((((((fi.refl.f rfl).f rfl).f rfl).f rfl).f rfl).f rfl).f rfl, ⟨fun j j0 j1 => h2 j j0 (by omega), h1, ?_, ?_, by omega, by omega, by omega⟩, u2_s, ?_, ?_⟩
  · rw [u2_f (by decide), u2_f (by decide), u2_f (by decide), u2_f (by decide), u2_f (by decide), u2_f (by decide), u2_s]
  · rw [u2_f (by decide), u2_f (by decide), u2_f (by decide), u2_f (by decide), u2_f (by decide), u2_s]
  · rw [u2_f (by decide), u2_s]
  · rw [cl_X10_openText]
    simp (implicitDefEqProofs := false) (disch := omega) only [↓rI_s, ↓rV_s, ↓rI_e, ↓rV_e, zc_eq, zc_ne, zc_lt, zc_ge, zc_gt, zc_le, zlt_t, zlt_f, zle_t, zle_f, zeq_t, zeq_f, lz, zadd, zsub, zmul, zneg, zb_e0, zb_e1, boo0, boo1, ua_s, ua_n, ua_ua, up_s, u2_s, u2_f, u2_c, u2_u2, Int.natCast_add, Int.zero_add, Int.add_zero, ↓reduceIte, ne_eq, not_true_eq_false, not_false_eq_true, Int.natCast_one, ↓k_X10_openText_0, ↓zg_2_0, ↓zg_3_1, ↓k_X10_openText_26, ↓mc_2, s_need1, ↓mc_3, eo]
theorem c_openText_f {m : Int} (hd : 3 ≤ d) (h : tpC T I A) (h0 : ¬ (0 ≤ n ∧ n ≤ m ∧ n ≤ I 3 1)) (hm : 0 ≤ m ∧ m ≤ 600) (hn : wI n) : q_call q_MT d 153 [.ref 2, .int (zI n), .int (zI m)] (zM I A W) = qIl I A W := by
  obtain ⟨d, rfl⟩ : ∃ e, d = e + 1 := ⟨d - 1, by omega⟩
  obtain ⟨h1, h2, h3, h4⟩ := h
  rw [cl_X10_openText]
  by_cases q1 : n < 0
  · simp (implicitDefEqProofs := false) (disch := omega) only [↓rI_s, ↓rV_s, ↓rI_e, ↓rV_e, zc_eq, zc_ne, zc_lt, zc_ge, zc_gt, zc_le, zlt_t, zlt_f, zle_t, zle_f, zeq_t, zeq_f, lz, zadd, zsub, zmul, zneg, zb_e0, zb_e1, boo0, boo1, ua_s, ua_n, ua_ua, up_s, u2_s, u2_f, u2_c, u2_u2, Int.natCast_add, Int.zero_add, Int.add_zero, ↓reduceIte, ne_eq, not_true_eq_false, not_false_eq_true, Int.natCast_one, ↓k_X10_openText_0, ↓k_X10_openText_25, ↓k_X10_openText_26, ↓mc_2, s_need0, t0_1]
  · by_cases q2 : m < n
    · simp (implicitDefEqProofs := false) (disch := omega) only [↓rI_s, ↓rV_s, ↓rI_e, ↓rV_e, zc_eq, zc_ne, zc_lt, zc_ge, zc_gt, zc_le, zlt_t, zlt_f, zle_t, zle_f, zeq_t, zeq_f, lz, zadd, zsub, zmul, zneg, zb_e0, zb_e1, boo0, boo1, ua_s, ua_n, ua_ua, up_s, u2_s, u2_f, u2_c, u2_u2, Int.natCast_add, Int.zero_add, Int.add_zero, ↓reduceIte, ne_eq, not_true_eq_false, not_false_eq_true, Int.natCast_one, ↓k_X10_openText_0, ↓k_X10_openText_25, ↓k_X10_openText_26, ↓mc_2, s_need0, t0_1]
    · simp (implicitDefEqProofs := false) (disch := omega) only [↓rI_s, ↓rV_s, ↓rI_e, ↓rV_e, zc_eq, zc_ne, zc_lt, zc_ge, zc_gt, zc_le, zlt_t, zlt_f, zle_t, zle_f, zeq_t, zeq_f, lz, zadd, zsub, zmul, zneg, zb_e0, zb_e1, boo0, boo1, ua_s, ua_n, ua_ua, up_s, u2_s, u2_f, u2_c, u2_u2, Int.natCast_add, Int.zero_add, Int.add_zero, ↓reduceIte, ne_eq, not_true_eq_false, not_false_eq_true, Int.natCast_one, ↓k_X10_openText_0, ↓zg_2_0, ↓zg_3_1, ↓k_X10_openText_25, ↓k_X10_openText_26, ↓mc_2, s_need0, t0_1]
theorem c_answer (hd : 1 ≤ d) : q_call q_MT d 103 [.ref 3] (zM I A W) = some (.inl (some (.int (zI (I 3 6 - 10)))), zM I A W) := by
  obtain ⟨d, rfl⟩ : ∃ e, d = e + 1 := ⟨d - 1, by omega⟩
  rw [cl_X9_answer]
  simp (implicitDefEqProofs := false) (disch := omega) only [↓rI_s, ↓rV_s, ↓rI_e, ↓rV_e, zc_eq, zc_ne, zc_lt, zc_ge, zc_gt, zc_le, zlt_t, zlt_f, zle_t, zle_f, zeq_t, zeq_f, lz, zadd, zsub, zmul, zneg, zb_e0, zb_e1, boo0, boo1, ua_s, ua_n, ua_ua, up_s, u2_s, u2_f, u2_c, u2_u2, Int.natCast_add, Int.zero_add, Int.add_zero, ↓reduceIte, ne_eq, not_true_eq_false, not_false_eq_true, Int.natCast_one, ↓k_X9_answer_0, ↓zg_3_6]
abbrev bK : List (Nat × Nat) := [(59, 0), (59, 2), (59, 3), (59, 4), (59, 5), (59, 7), (59, 8)]
theorem m_begins (hd : 1 ≤ d) (h : tpM T I A) (h0 : 0 ≤ n ∧ n ≤ I 59 2) : ∃ I', fi [(59, 2), (59, 3), (59, 4), (59, 5), (59, 7), (59, 8)] I I' ∧ mTx T n 0 I' A ∧ I' 59 5 = -1 ∧ I' 59 2 = 0 ∧ I' 59 7 = 0 ∧ I' 59 8 = -1 ∧ q_call q_MT d 179 [.ref 59, .int (zI n)] (zM I A W) = some (.inl none, zM I' A W) := by
  obtain ⟨d, rfl⟩ : ∃ e, d = e + 1 := ⟨d - 1, by omega⟩
  obtain ⟨h1, h2, h3, h4⟩ := h
  refine ⟨u2 (u2 (u2 (u2 (u2 (u2 I 59 2 0) 59 8 (-1)) 59 3 n) 59 4 0) 59 5 (-1)) 59 7 0, (((((fi.refl.f rfl).f rfl).f rfl).f rfl).f rfl).f rfl, ⟨fun j j0 j1 => h2 j j0 (by omega), h1, ?_, ?_, by omega, by omega, by omega⟩, ?_, ?_, u2_s, ?_, ?_⟩
  · rw [u2_f (by decide), u2_f (by decide), u2_f (by decide), u2_s]
  · rw [u2_f (by decide), u2_f (by decide), u2_s]
  · rw [u2_f (by decide), u2_s]
  · rw [u2_f (by decide), u2_f (by decide), u2_f (by decide), u2_f (by decide), u2_f (by decide), u2_s]
  · rw [u2_f (by decide), u2_f (by decide), u2_f (by decide), u2_f (by decide), u2_s]
  · rw [cl_X11_begins]
    simp (implicitDefEqProofs := false) (disch := omega) only [↓rI_s, ↓rV_s, ↓rI_e, ↓rV_e, zc_eq, zc_ne, zc_lt, zc_ge, zc_gt, zc_le, zlt_t, zlt_f, zle_t, zle_f, zeq_t, zeq_f, lz, zadd, zsub, zmul, zneg, zb_e0, zb_e1, boo0, boo1, ua_s, ua_n, ua_ua, up_s, u2_s, u2_f, u2_c, u2_u2, Int.natCast_add, Int.zero_add, Int.add_zero, ↓reduceIte, ne_eq, not_true_eq_false, not_false_eq_true, Int.natCast_one, ↓k_X11_begins_0, zp_59_2, zp_59_8, zp_59_3, zp_59_4, zp_59_5, zp_59_7]
theorem m_result {g : Int} (hd : 2 ≤ d) (h : I 59 5 = -1) : q_call q_MT d 180 [.ref 59, .int (zI g)] (zM I A W) = some (.inl (some (.int (zI g))), zM (u2 I 59 8 (-1)) A W) := by
  obtain ⟨d, rfl⟩ : ∃ e, d = e + 1 := ⟨d - 1, by omega⟩
  have f := m_fine (I := u2 I 59 8 (-1)) (A := A) (W := W) (d := d) (by omega) (by rw [u2_f (by decide), h]; decide)
  rw [zb_t (by rw [u2_f (by decide)]; exact h)] at f
  rw [cl_X11_result]
  simp (implicitDefEqProofs := false) (disch := omega) only [↓rI_s, ↓rV_s, ↓rI_e, ↓rV_e, zc_eq, zc_ne, zc_lt, zc_ge, zc_gt, zc_le, zlt_t, zlt_f, zle_t, zle_f, zeq_t, zeq_f, lz, zadd, zsub, zmul, zneg, zb_e0, zb_e1, boo0, boo1, ua_s, ua_n, ua_ua, up_s, u2_s, u2_f, u2_c, u2_u2, Int.natCast_add, Int.zero_add, Int.add_zero, ↓reduceIte, ne_eq, not_true_eq_false, not_false_eq_true, Int.natCast_one, ↓k_X11_result_0, ↓zg_59_5, h, ↓zp_59_8, ↓mc_59, f, ↓k_X11_result_26]
theorem m_result_b {g : Int} (hd : 2 ≤ d) (h : 0 ≤ I 59 5 ∧ I 59 5 ≤ 600) : q_call q_MT d 180 [.ref 59, .int (zI g)] (zM I A W) = some (.inl (some (.int (zI (I 59 6 - 10)))), zM (u2 I 59 8 (I 59 5)) A W) := by
  obtain ⟨d, rfl⟩ : ∃ e, d = e + 1 := ⟨d - 1, by omega⟩
  have f := m_fine (I := u2 I 59 8 (I 59 5)) (A := A) (W := W) (d := d) (by omega) (by rw [u2_f (by decide)]; omega)
  rw [zb_f (by rw [u2_f (by decide)]; omega)] at f
  rw [cl_X11_result]
  simp (implicitDefEqProofs := false) (disch := omega) only [↓rI_s, ↓rV_s, ↓rI_e, ↓rV_e, zc_eq, zc_ne, zc_lt, zc_ge, zc_gt, zc_le, zlt_t, zlt_f, zle_t, zle_f, zeq_t, zeq_f, lz, zadd, zsub, zmul, zneg, zb_e0, zb_e1, boo0, boo1, ua_s, ua_n, ua_ua, up_s, u2_s, u2_f, u2_c, u2_u2, Int.natCast_add, Int.zero_add, Int.add_zero, ↓reduceIte, ne_eq, not_true_eq_false, not_false_eq_true, Int.natCast_one, ↓k_X11_result_0, ↓zg_59_5, ↓zp_59_8, ↓mc_59, f, ↓zg_59_6, ↓k_X11_result_26]
def bkL (T : Int → Int) (n : Int) (f : Int → Int) (a : Int) : zE (Int × (Int → Int)) := bd (numS T n 1 9 a) fun x => if f x.2 = -1 then bd (numS T n 0 60 x.1) fun y => bd (sgnS T n 59 y.1) fun z => .inr (z, up f x.2 y.2) else .inl (2, sk T n a)
def bkS (T : Int → Int) (n : Int) : Nat → (Int → Int) → Int → Int → zE (Int × ((Int → Int) × Int))
  | 0, f, c, a => .inr (a, f, c)
  | m + 1, f, c, a => if sk T n a < n then bd (bkL T n f a) fun x => bkS T n m x.2 (c + 1) x.1 else .inr (sk T n a, f, c)
theorem bkL_r {f g : Int → Int} {e : Int} (ha : a ≤ n) (hf : tB9 f) (h : bkL T n f a = .inr (e, g)) : a + 3 ≤ e ∧ e ≤ n ∧ tB9 g := by
  unfold bkL at h
  rcases hq : numS T n 1 9 a with ⟨k, p⟩ | ⟨e1, p⟩
  · rw [hq] at h
    cases h
  · rw [hq] at h
    have r1 := numS_r ha hq
    replace h : (if f p = -1 then bd (numS T n 0 60 e1) fun y => bd (sgnS T n 59 y.1) fun z => .inr (z, up f p y.2) else .inl (2, sk T n a)) = Sum.inr (e, g) := h
    split at h
    · rcases hq2 : numS T n 0 60 e1 with ⟨k, p⟩ | ⟨e2, v⟩
      · rw [hq2] at h
        cases h
      · rw [hq2] at h
        have r2 := numS_r (by omega) hq2
        replace h : bd (sgnS T n 59 e2) (fun z => .inr (z, up f p v)) = Sum.inr (e, g) := h
        rcases hq3 : sgnS T n 59 e2 with ⟨k, p⟩ | e3
        · rw [hq3] at h
          cases h
        · rw [hq3] at h
          have r3 := sgnS_r (by omega) hq3
          cases h
          refine ⟨by omega, by omega, fun q q0 q1 => ?_⟩
          by_cases c : q = p
          · subst c; rw [up_s]; omega
          · rw [up_n c]; exact hf q q0 q1
    · cases h
theorem c_readLine {f : Int → Int} (hd : 3 ≤ d) (h : cTx T n a I A) (hf : ∀ p : Int, 1 ≤ p → p ≤ 9 → A 38 p = f p) (hb : tB9 f) : cE T n xK [38] I A W (q_call q_MT d 48 [.ref 36, .ref 3] (zM I A W)) (fun g _ A' => ∀ p : Int, 1 ≤ p → p ≤ 9 → A' 38 p = g p) (bkL T n f a) := by
  obtain ⟨d, rfl⟩ : ∃ e, d = e + 1 := ⟨d - 1, by omega⟩
  have han := h.2.2.2.2.2.1
  have e1 := c_number (lo := 1) (hi := 9) (W := W) (show 2 ≤ d by omega) h (by omega) (by omega)
  unfold bkL
  rcases hq : numS T n 1 9 a with ⟨k, p⟩ | ⟨e, p⟩
  · rw [hq] at e1
    obtain ⟨I1, x1, x2, x3, x4⟩ := e1
    refine cE.bad I1 A x1 fr.refl x2 x3 ?_
    rw [cl_X2_readLine]
    simp (implicitDefEqProofs := false) (disch := omega) only [↓rI_s, ↓rV_s, ↓rI_e, ↓rV_e, zc_eq, zc_ne, zc_lt, zc_ge, zc_gt, zc_le, zlt_t, zlt_f, zle_t, zle_f, zeq_t, zeq_f, lz, zadd, zsub, zmul, zneg, zb_e0, zb_e1, boo0, boo1, ua_s, ua_n, ua_ua, up_s, u2_s, u2_f, u2_c, u2_u2, Int.natCast_add, Int.zero_add, Int.add_zero, ↓reduceIte, ne_eq, not_true_eq_false, not_false_eq_true, Int.natCast_one, ↓k_X2_readLine_0, ↓mc_3, x4]
  · rw [hq] at e1
    obtain ⟨I1, x1, x2, x3, x4, x5, x6, x7⟩ := e1
    have r1 := numS_r han hq
    have hp := hf p (by omega) (by omega)
    have hbp := hb p (by omega) (by omega)
    show cE _ _ _ _ _ _ _ _ _ (if f p = -1 then bd (numS T n 0 60 e) fun y => bd (sgnS T n 59 y.1) fun z => .inr (z, up f p y.2) else .inl (2, sk T n a))
    by_cases c : f p = -1
    · rw [if_pos c]
      rw [c] at hp
      have e2 := c_number (lo := 0) (hi := 60) (W := W) (show 2 ≤ d by omega) x2 (by omega) (by omega)
      rcases hq2 : numS T n 0 60 e with ⟨k, p2⟩ | ⟨e2', v⟩
      · rw [hq2] at e2
        obtain ⟨I2, y1, y2, y3, y4⟩ := e2
        refine cE.bad I2 A (x1.tr y1) fr.refl y2 y3 ?_
        rw [cl_X2_readLine]
        simp (implicitDefEqProofs := false) (disch := omega) only [↓rI_s, ↓rV_s, ↓rI_e, ↓rV_e, zc_eq, zc_ne, zc_lt, zc_ge, zc_gt, zc_le, zlt_t, zlt_f, zle_t, zle_f, zeq_t, zeq_f, lz, zadd, zsub, zmul, zneg, zb_e0, zb_e1, boo0, boo1, ua_s, ua_n, ua_ua, up_s, u2_s, u2_f, u2_c, u2_u2, Int.natCast_add, Int.zero_add, Int.add_zero, ↓reduceIte, ne_eq, not_true_eq_false, not_false_eq_true, Int.natCast_one, ↓k_X2_readLine_0, ↓mc_3, x7, ↓zg_3_5, x4, ↓zg_36_3, zl_38, hp, y4]
      · rw [hq2] at e2
        obtain ⟨I2, y1, y2, y3, y4, y5, y6, y7⟩ := e2
        have r2 := numS_r (by omega) hq2
        have y2' : cTx T n e2' I2 (ua A 38 (up (A 38) p v)) := y2.fr (L := [38]) (fr.refl.a rfl) rfl
        have e3 := c_sign (c := 59) (W := W) (show 2 ≤ d by omega) y2' (by omega)
        show cE _ _ _ _ _ _ _ _ _ (bd (sgnS T n 59 e2') fun z => .inr (z, up f p v))
        rcases hq3 : sgnS T n 59 e2' with ⟨k, p3⟩ | e4
        · rw [hq3] at e3
          obtain ⟨I3, z1, z2, z3, z4⟩ := e3
          refine cE.bad I3 (ua A 38 (up (A 38) p v)) ((x1.tr y1).tr z1) (fr.refl.a rfl) z2 z3 ?_
          rw [cl_X2_readLine]
          simp (implicitDefEqProofs := false) (disch := omega) only [↓rI_s, ↓rV_s, ↓rI_e, ↓rV_e, zc_eq, zc_ne, zc_lt, zc_ge, zc_gt, zc_le, zlt_t, zlt_f, zle_t, zle_f, zeq_t, zeq_f, lz, zadd, zsub, zmul, zneg, zb_e0, zb_e1, boo0, boo1, ua_s, ua_n, ua_ua, up_s, u2_s, u2_f, u2_c, u2_u2, Int.natCast_add, Int.zero_add, Int.add_zero, ↓reduceIte, ne_eq, not_true_eq_false, not_false_eq_true, Int.natCast_one, ↓k_X2_readLine_0, ↓mc_3, x7, ↓zg_3_5, x4, ↓zg_36_3, zl_38, hp, y7, y4, zs_38, z4]
        · rw [hq3] at e3
          obtain ⟨I3, z1, z2, z3, z4, z5⟩ := e3
          refine cE.ok I3 (ua A 38 (up (A 38) p v)) ((x1.tr y1).tr z1) (fr.refl.a rfl) z2 (z4.trans (y6.trans x6)) ?_ ?_
          · intro q q0 q1
            rw [ua_s]
            by_cases c : q = p
            · subst c; rw [up_s, up_s]
            · rw [up_n c, up_n c]; exact hf q q0 q1
          · rw [cl_X2_readLine]
            simp (implicitDefEqProofs := false) (disch := omega) only [↓rI_s, ↓rV_s, ↓rI_e, ↓rV_e, zc_eq, zc_ne, zc_lt, zc_ge, zc_gt, zc_le, zlt_t, zlt_f, zle_t, zle_f, zeq_t, zeq_f, lz, zadd, zsub, zmul, zneg, zb_e0, zb_e1, boo0, boo1, ua_s, ua_n, ua_ua, up_s, u2_s, u2_f, u2_c, u2_u2, Int.natCast_add, Int.zero_add, Int.add_zero, ↓reduceIte, ne_eq, not_true_eq_false, not_false_eq_true, Int.natCast_one, ↓k_X2_readLine_0, ↓mc_3, x7, ↓zg_3_5, x4, ↓zg_36_3, zl_38, hp, y7, y4, zs_38, z5]
    · rw [if_neg c]
      have ef := c_fail (I := I1) (A := A) (W := W) (d := d) (k := 2) (p := sk T n a) (by omega)
      refine cE.bad (u2 (u2 I1 3 6 2) 3 7 (sk T n a)) A ((x1.f rfl).f rfl) fr.refl (by rw [u2_f (by decide), u2_s]) u2_s ?_
      rw [cl_X2_readLine]
      simp (implicitDefEqProofs := false) (disch := omega) only [↓rI_s, ↓rV_s, ↓rI_e, ↓rV_e, zc_eq, zc_ne, zc_lt, zc_ge, zc_gt, zc_le, zlt_t, zlt_f, zle_t, zle_f, zeq_t, zeq_f, lz, zadd, zsub, zmul, zneg, zb_e0, zb_e1, boo0, boo1, ua_s, ua_n, ua_ua, up_s, u2_s, u2_f, u2_c, u2_u2, Int.natCast_add, Int.zero_add, Int.add_zero, ↓reduceIte, ne_eq, not_true_eq_false, not_false_eq_true, Int.natCast_one, ↓k_X2_readLine_0, ↓mc_3, x7, ↓zg_3_5, x4, ↓zg_36_3, zl_38, hp, ↓zg_3_4, x3, ef]
theorem c_bkLoop : ∀ (m : Nat) (f : Int → Int) (c a : Int) (i : Nat) (I : Nat → Nat → Int) (A : Nat → Int → Int), 4 ≤ d → n ≤ 100 → (n - a).toNat < m → 2 * (i : Int) ≤ a → cTx T n a I A → (∀ p : Int, 1 ≤ p → p ≤ 9 → A 38 p = f p) → tB9 f → match bkS T n m f c a with
    | .inl (k, p) => ∃ I' A', fi xK I I' ∧ fr [38] A A' ∧ I' 3 6 = k ∧ I' 3 7 = p ∧ q_run qm_X2_readFrom (q_call q_MT (d - 1)) 25 [.ref 36, .ref 3, .int (zI c), .int (zI i)] [] (zM I A W) = some (.inl (some (.int (zI 0))), zM I' A' W)
    | .inr (_, g) => ∃ I' A' l3, fi xK I I' ∧ fr [38] A A' ∧ I' 3 7 = I 3 7 ∧ (∀ p : Int, 1 ≤ p → p ≤ 9 → A' 38 p = g.1 p) ∧ tB9 g.1 ∧ q_run qm_X2_readFrom (q_call q_MT (d - 1)) 25 [.ref 36, .ref 3, .int (zI c), .int (zI i)] [] (zM I A W) = q_run qm_X2_readFrom (q_call q_MT (d - 1)) 58 [.ref 36, .ref 3, .int (zI g.2), l3] [] (zM I' A' W) := by
  intro m
  induction m with
  | zero => intro f c a i I A _ _ hm; omega
  | succ m ih =>
    intro f c a i I A hd hn hm hi h hf hb
    obtain ⟨d, rfl⟩ : ∃ e, d = e + 1 := ⟨d - 1, by omega⟩
    rw [show d + 1 - 1 = d from rfl] at ih ⊢
    have e := c_peek (W := W) (show 1 ≤ d by omega) h
    have han := h.2.2.2.2.2.1
    have ha0 := h.2.2.2.2.1
    have sb := sk_b (T := T) han
    have tb := h.2.1 (sk T n a)
    have h' : cTx T n (sk T n a) (u2 (u2 I 3 3 (sk T n a)) 3 4 (sk T n a)) A := h.u (by rw [u2_f (by decide), u2_f (by decide)]) (by rw [u2_f (by decide), u2_s]) (by omega) sb.2
    have fI : fi xK I (u2 (u2 I 3 3 (sk T n a)) 3 4 (sk T n a)) := (fi.refl.f rfl).f rfl
    have f7 : u2 (u2 I 3 3 (sk T n a)) 3 4 (sk T n a) 3 7 = I 3 7 := by rw [u2_f (by decide), u2_f (by decide)]
    unfold bkS
    by_cases q : sk T n a < n
    · rw [if_pos q]
      rw [if_pos q] at e
      have e1 := c_readLine (W := W) (d := d) (by omega) h' hf hb
      have eq : bkL T n f (sk T n a) = bkL T n f a := by
        unfold bkL numS
        rw [sk_sk han]
      rw [eq] at e1
      rcases hq : bkL T n f a with ⟨k, p⟩ | ⟨e2, g⟩
      · rw [hq] at e1
        obtain ⟨I1, A1, x1, x2, x3, x4, x5⟩ := e1
        refine ⟨I1, A1, fI.tr x1, x2, x3, x4, ?_⟩
        rw [k_X2_readFrom_25]
        simp (implicitDefEqProofs := false) (disch := omega) only [↓rI_s, ↓rV_s, ↓rI_e, ↓rV_e, zc_eq, zc_ne, zc_lt, zc_ge, zc_gt, zc_le, zlt_t, zlt_f, zle_t, zle_f, zeq_t, zeq_f, lz, zadd, zsub, zmul, zneg, zb_e0, zb_e1, boo0, boo1, ua_s, ua_n, ua_ua, up_s, u2_s, u2_f, u2_c, u2_u2, Int.natCast_add, Int.zero_add, Int.add_zero, ↓reduceIte, ne_eq, not_true_eq_false, not_false_eq_true, Int.natCast_one, ↓mc_3, e, ↓mc_36, x5]
      · rw [hq] at e1
        obtain ⟨I1, A1, x1, x2, x3, x4, x5, x6⟩ := e1
        have r1 := bkL_r han hb hq
        have y := ih g (c + 1) e2 (i + 1) I1 A1 (by omega) hn (by omega) (by omega) x3 x5 r1.2.2
        have er : q_run qm_X2_readFrom (q_call q_MT d) 25 [.ref 36, .ref 3, .int (zI c), .int (zI i)] [] (zM I A W) = q_run qm_X2_readFrom (q_call q_MT d) 25 [.ref 36, .ref 3, .int (zI (c + 1)), .int (zI ((i + 1 : Nat) : Int))] [] (zM I1 A1 W) := by
          rw [k_X2_readFrom_25]
          simp (implicitDefEqProofs := false) (disch := omega) only [↓rI_s, ↓rV_s, ↓rI_e, ↓rV_e, zc_eq, zc_ne, zc_lt, zc_ge, zc_gt, zc_le, zlt_t, zlt_f, zle_t, zle_f, zeq_t, zeq_f, lz, zadd, zsub, zmul, zneg, zb_e0, zb_e1, boo0, boo1, ua_s, ua_n, ua_ua, up_s, u2_s, u2_f, u2_c, u2_u2, Int.natCast_add, Int.zero_add, Int.add_zero, ↓reduceIte, ne_eq, not_true_eq_false, not_false_eq_true, Int.natCast_one, ↓mc_3, e, ↓mc_36, x6]
        rw [er]
        show match bkS T n m g (c + 1) e2 with
          | .inl (k, p) => _
          | .inr (_, g) => _
        rcases hs : bkS T n m g (c + 1) e2 with ⟨k, p⟩ | ⟨e3, v⟩
        · rw [hs] at y
          obtain ⟨I2, A2, z1, z2, z3, z4, z5⟩ := y
          exact ⟨I2, A2, (fI.tr x1).tr z1, x2.tr z2, z3, z4, z5⟩
        · rw [hs] at y
          obtain ⟨I2, A2, l3, z1, z2, z3, z4, z5, z6⟩ := y
          exact ⟨I2, A2, l3, (fI.tr x1).tr z1, x2.tr z2, z3.trans (x4.trans f7), z4, z5, z6⟩
    · rw [if_neg q]
      rw [if_neg q] at e
      refine ⟨u2 (u2 I 3 3 (sk T n a)) 3 4 (sk T n a), A, .int (zI i), fI, fr.refl, f7, hf, hb, ?_⟩
      rw [k_X2_readFrom_25]
      simp (implicitDefEqProofs := false) (disch := omega) only [↓rI_s, ↓rV_s, ↓rI_e, ↓rV_e, zc_eq, zc_ne, zc_lt, zc_ge, zc_gt, zc_le, zlt_t, zlt_f, zle_t, zle_f, zeq_t, zeq_f, lz, zadd, zsub, zmul, zneg, zb_e0, zb_e1, boo0, boo1, ua_s, ua_n, ua_ua, up_s, u2_s, u2_f, u2_c, u2_u2, Int.natCast_add, Int.zero_add, Int.add_zero, ↓reduceIte, ne_eq, not_true_eq_false, not_false_eq_true, Int.natCast_one, ↓mc_3, e]
end BK
