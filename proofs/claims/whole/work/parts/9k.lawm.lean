--DEPS 9j.lawe
/-! LAW, in the reference. -/
abbrev lKm : List (Nat × Nat) := [(59, 4), (59, 5), (59, 6), (59, 7), (59, 31)]
def mCd (c : zC) (I : Nat → Nat → Int) (A : Nat → Int → Int) : Prop := I 59 31 = c.1 ∧ ∀ k : Nat, k < c.1 → (2000 ≤ c.2 k → A 68 k = c.2 k - 1998) ∧ (c.2 k < 1000 → A 68 k = 0 ∧ A 69 k = c.2 k) ∧ (1000 ≤ c.2 k → c.2 k < 2000 → A 68 k = 1 ∧ A 69 k = c.2 k - 1000)
section LM
variable {d : Nat} {I I' : Nat → Nat → Int} {A : Nat → Int → Int} {W : qWt} {T : Int → Int} {n a : Int} {c : zC}
theorem mCd.k (h : mCd c I A) (f : fi [(59, 4), (59, 5), (59, 6), (59, 7)] I I') : mCd c I' A := ⟨(f 59 31 rfl).trans h.1, h.2⟩
theorem m_emitL {v wh oo : Int} (hd : 2 ≤ d) (h : mCd c I A) (hc : c.1 < 150) (hb5 : I 59 5 = -1) (hv : (2000 ≤ v → wh = v - 1998) ∧ (v < 1000 → wh = 0 ∧ oo = v) ∧ (1000 ≤ v → v < 2000 → wh = 1 ∧ oo = v - 1000)) : mCd (lEm v c) (u2 I 59 31 (c.1 + 1)) (ua (ua A 68 (up (A 68) c.1 wh)) 69 (up (A 69) c.1 oo)) ∧ q_call q_MT d 190 [.ref 59, .int (zI wh), .int (zI oo)] (zM I A W) = some (.inl none, zM (u2 I 59 31 (c.1 + 1)) (ua (ua A 68 (up (A 68) c.1 wh)) 69 (up (A 69) c.1 oo)) W) := by
  obtain ⟨d, rfl⟩ : ∃ e, d = e + 1 := ⟨d - 1, by omega⟩
  obtain ⟨h1, h2⟩ := h
  have f1 := m_fine (I := I) (A := A) (W := W) (d := d) (by omega) (by omega)
  rw [zb_t hb5] at f1
  refine ⟨⟨u2_s, fun k hk => ?_⟩, ?_⟩
  · have hk : k < c.1 + 1 := hk
    rw [ua_s, ua_n (by decide), ua_s]
    show (2000 ≤ up c.2 c.1 v k → up (A 68) c.1 wh k = up c.2 c.1 v k - 1998) ∧ (up c.2 c.1 v k < 1000 → up (A 68) c.1 wh k = 0 ∧ up (A 69) c.1 oo k = up c.2 c.1 v k) ∧ (1000 ≤ up c.2 c.1 v k → up c.2 c.1 v k < 2000 → up (A 68) c.1 wh k = 1 ∧ up (A 69) c.1 oo k = up c.2 c.1 v k - 1000)
    by_cases e : (k : Int) = c.1
    · rw [e, up_s, up_s, up_s]; exact hv
    · rw [up_n e, up_n e, up_n e]; exact h2 k (by omega)
  · rw [cl_X11_emit]
    simp (implicitDefEqProofs := false) (disch := omega) only [↓rI_s, ↓rV_s, ↓rI_e, ↓rV_e, zc_eq, zc_ne, zc_lt, zc_ge, zc_gt, zc_le, zlt_t, zlt_f, zle_t, zle_f, zeq_t, zeq_f, lz, zadd, zsub, zmul, zneg, zb_e0, zb_e1, boo0, boo1, ua_s, ua_n, ua_ua, up_s, u2_s, u2_f, u2_c, u2_u2, Int.natCast_add, Int.zero_add, Int.add_zero, ↓reduceIte, ne_eq, not_true_eq_false, not_false_eq_true, Int.natCast_one, ↓k_X11_emit_0, ↓mc_59, ↓cI f1, ↓zg_59_26, ↓zg_59_31, h1, zs_68, ↓zg_59_27, zs_69, ↓zp_59_31]
theorem m_emit_b {wh oo : Int} (hd : 2 ≤ d) (n5 : I 59 5 ≠ -1) (w5 : wI (I 59 5)) : q_call q_MT d 190 [.ref 59, .int (zI wh), .int (zI oo)] (zM I A W) = some (.inl none, zM I A W) := by
  obtain ⟨d, rfl⟩ : ∃ e, d = e + 1 := ⟨d - 1, by omega⟩
  have f1 := m_fine (I := I) (A := A) (W := W) (d := d) (by omega) w5
  rw [zb_f n5] at f1
  rw [cl_X11_emit]
  simp (implicitDefEqProofs := false) (disch := omega) only [↓rI_s, ↓rV_s, ↓rI_e, ↓rV_e, zc_eq, zc_ne, zc_lt, zc_ge, zc_gt, zc_le, zlt_t, zlt_f, zle_t, zle_f, zeq_t, zeq_f, lz, zadd, zsub, zmul, zneg, zb_e0, zb_e1, boo0, boo1, ua_s, ua_n, ua_ua, up_s, u2_s, u2_f, u2_c, u2_u2, Int.natCast_add, Int.zero_add, Int.add_zero, ↓reduceIte, ne_eq, not_true_eq_false, not_false_eq_true, Int.natCast_one, ↓k_X11_emit_0, ↓mc_59, ↓cI f1]
theorem m_readUnit_b (hd : 2 ≤ d) (n5 : I 59 5 ≠ -1) (w5 : wI (I 59 5)) : q_call q_MT d 196 [.ref 59] (zM I A W) = some (.inl none, zM I A W) := by
  obtain ⟨d, rfl⟩ : ∃ e, d = e + 1 := ⟨d - 1, by omega⟩
  have f1 := m_fine (I := I) (A := A) (W := W) (d := d) (by omega) w5
  rw [zb_f n5] at f1
  rw [cl_X11_readUnit]
  simp (implicitDefEqProofs := false) (disch := omega) only [↓rI_s, ↓rV_s, ↓rI_e, ↓rV_e, zc_eq, zc_ne, zc_lt, zc_ge, zc_gt, zc_le, zlt_t, zlt_f, zle_t, zle_f, zeq_t, zeq_f, lz, zadd, zsub, zmul, zneg, zb_e0, zb_e1, boo0, boo1, ua_s, ua_n, ua_ua, up_s, u2_s, u2_f, u2_c, u2_u2, Int.natCast_add, Int.zero_add, Int.add_zero, ↓reduceIte, ne_eq, not_true_eq_false, not_false_eq_true, Int.natCast_one, ↓k_X11_readUnit_0, ↓mc_59, ↓cI f1]
theorem m_readProduct_b (hd : 3 ≤ d) (n5 : I 59 5 ≠ -1) (w5 : wI (I 59 5)) : q_call q_MT d 193 [.ref 59] (zM I A W) = some (.inl none, zM I A W) := by
  obtain ⟨d, rfl⟩ : ∃ e, d = e + 1 := ⟨d - 1, by omega⟩
  have f1 := m_fine (I := I) (A := A) (W := W) (d := d) (by omega) w5
  rw [zb_f n5] at f1
  have eu := m_readUnit_b (I := I) (A := A) (W := W) (d := d) (by omega) n5 w5
  rw [cl_X11_readProduct]
  simp (implicitDefEqProofs := false) (disch := omega) only [↓rI_s, ↓rV_s, ↓rI_e, ↓rV_e, zc_eq, zc_ne, zc_lt, zc_ge, zc_gt, zc_le, zlt_t, zlt_f, zle_t, zle_f, zeq_t, zeq_f, lz, zadd, zsub, zmul, zneg, zb_e0, zb_e1, boo0, boo1, ua_s, ua_n, ua_ua, up_s, u2_s, u2_f, u2_c, u2_u2, Int.natCast_add, Int.zero_add, Int.add_zero, ↓reduceIte, ne_eq, not_true_eq_false, not_false_eq_true, Int.natCast_one, ↓k_X11_readProduct_0, ↓mc_59, ↓cV eu]
  rw [k_X11_readProduct_4]
  simp (implicitDefEqProofs := false) (disch := omega) only [↓rI_s, ↓rV_s, ↓rI_e, ↓rV_e, zc_eq, zc_ne, zc_lt, zc_ge, zc_gt, zc_le, zlt_t, zlt_f, zle_t, zle_f, zeq_t, zeq_f, lz, zadd, zsub, zmul, zneg, zb_e0, zb_e1, boo0, boo1, ua_s, ua_n, ua_ua, up_s, u2_s, u2_f, u2_c, u2_u2, Int.natCast_add, Int.zero_add, Int.add_zero, ↓reduceIte, ne_eq, not_true_eq_false, not_false_eq_true, Int.natCast_one, ↓mc_59, ↓cI f1, ↓k_X11_readProduct_67]
theorem m_readSum_b (hd : 4 ≤ d) (n5 : I 59 5 ≠ -1) (w5 : wI (I 59 5)) : q_call q_MT d 192 [.ref 59] (zM I A W) = some (.inl none, zM I A W) := by
  obtain ⟨d, rfl⟩ : ∃ e, d = e + 1 := ⟨d - 1, by omega⟩
  have f1 := m_fine (I := I) (A := A) (W := W) (d := d) (by omega) w5
  rw [zb_f n5] at f1
  have eu := m_readProduct_b (I := I) (A := A) (W := W) (d := d) (by omega) n5 w5
  rw [cl_X11_readSum]
  simp (implicitDefEqProofs := false) (disch := omega) only [↓rI_s, ↓rV_s, ↓rI_e, ↓rV_e, zc_eq, zc_ne, zc_lt, zc_ge, zc_gt, zc_le, zlt_t, zlt_f, zle_t, zle_f, zeq_t, zeq_f, lz, zadd, zsub, zmul, zneg, zb_e0, zb_e1, boo0, boo1, ua_s, ua_n, ua_ua, up_s, u2_s, u2_f, u2_c, u2_u2, Int.natCast_add, Int.zero_add, Int.add_zero, ↓reduceIte, ne_eq, not_true_eq_false, not_false_eq_true, Int.natCast_one, ↓k_X11_readSum_0, ↓mc_59, ↓cV eu]
  rw [k_X11_readSum_4]
  simp (implicitDefEqProofs := false) (disch := omega) only [↓rI_s, ↓rV_s, ↓rI_e, ↓rV_e, zc_eq, zc_ne, zc_lt, zc_ge, zc_gt, zc_le, zlt_t, zlt_f, zle_t, zle_f, zeq_t, zeq_f, lz, zadd, zsub, zmul, zneg, zb_e0, zb_e1, boo0, boo1, ua_s, ua_n, ua_ua, up_s, u2_s, u2_f, u2_c, u2_u2, Int.natCast_add, Int.zero_add, Int.add_zero, ↓reduceIte, ne_eq, not_true_eq_false, not_false_eq_true, Int.natCast_one, ↓mc_59, ↓cI f1, ↓k_X11_readSum_67]
theorem m_opens {o b y : Int} (hd : 2 ≤ d) (hb5 : I 59 5 = -1) (h4 : I 59 4 = b) (h7 : I 59 7 = o) (ho : 0 ≤ o ∧ o < 6) : q_call q_MT d 191 [.ref 59, .int (zI y)] (zM I A W) = some (.inl none, zM (u2 (u2 I 59 4 (b + y)) 59 7 (o + 1)) A W) := by
  obtain ⟨d, rfl⟩ : ∃ e, d = e + 1 := ⟨d - 1, by omega⟩
  have f1 := m_fine (I := I) (A := A) (W := W) (d := d) (by omega) (by omega)
  rw [zb_t hb5] at f1
  rw [cl_X11_opensOne]
  simp (implicitDefEqProofs := false) (disch := omega) only [↓rI_s, ↓rV_s, ↓rI_e, ↓rV_e, zc_eq, zc_ne, zc_lt, zc_ge, zc_gt, zc_le, zlt_t, zlt_f, zle_t, zle_f, zeq_t, zeq_f, lz, zadd, zsub, zmul, zneg, zb_e0, zb_e1, boo0, boo1, ua_s, ua_n, ua_ua, up_s, u2_s, u2_f, u2_c, u2_u2, Int.natCast_add, Int.zero_add, Int.add_zero, ↓reduceIte, ne_eq, not_true_eq_false, not_false_eq_true, Int.natCast_one, ↓k_X11_opensOne_0, ↓mc_59, ↓cI f1, ↓zg_59_7, h7, ↓k_X11_opensOne_25, ↓zg_59_4, h4, ↓zp_59_4, ↓k_X11_opensOne_42, ↓zp_59_7]
theorem m_opens6 {b y : Int} (hd : 2 ≤ d) (hb5 : I 59 5 = -1) (h4 : I 59 4 = b) (hb : 0 ≤ b ∧ b ≤ 600) (h7 : I 59 7 = 6) : q_call q_MT d 191 [.ref 59, .int (zI y)] (zM I A W) = some (.inl none, zM (u2 (u2 (u2 I 59 5 b) 59 6 3) 59 7 7) A W) := by
  obtain ⟨d, rfl⟩ : ∃ e, d = e + 1 := ⟨d - 1, by omega⟩
  have f1 := m_fine (I := I) (A := A) (W := W) (d := d) (by omega) (by omega)
  rw [zb_t hb5] at f1
  have ew := m_wrong (I := I) (A := A) (W := W) (d := d) (k := 3) (p := b) (by omega) hb5
  have f3 := m_fine (I := u2 (u2 I 59 5 b) 59 6 3) (A := A) (W := W) (d := d) (by omega) (by rw [u2_f (by decide), u2_s]; omega)
  rw [zb_f (by rw [u2_f (by decide), u2_s]; omega)] at f3
  rw [cl_X11_opensOne]
  simp (implicitDefEqProofs := false) (disch := omega) only [↓rI_s, ↓rV_s, ↓rI_e, ↓rV_e, zc_eq, zc_ne, zc_lt, zc_ge, zc_gt, zc_le, zlt_t, zlt_f, zle_t, zle_f, zeq_t, zeq_f, lz, zadd, zsub, zmul, zneg, zb_e0, zb_e1, boo0, boo1, ua_s, ua_n, ua_ua, up_s, u2_s, u2_f, u2_c, u2_u2, Int.natCast_add, Int.zero_add, Int.add_zero, ↓reduceIte, ne_eq, not_true_eq_false, not_false_eq_true, Int.natCast_one, ↓k_X11_opensOne_0, ↓mc_59, ↓cI f1, ↓zg_59_7, h7, ↓zg_59_4, h4, ↓cV ew, ↓k_X11_opensOne_25, ↓cI f3, ↓k_X11_opensOne_42, ↓zp_59_7]
  rfl
theorem zne {w l : Int} {P : Prop} (q : w = l ↔ P) (h : ¬ P) (hw : 0 ≤ w ∧ w < 1073741824) (hl : 0 ≤ l ∧ l < 1073741824) : (zI w = zI l) = False := zeq_f ⟨fun e => h (q.mp e), by omega, by omega, by omega, by omega⟩
theorem zye {w l : Int} {P : Prop} (q : w = l ↔ P) (h : P) : (zI w = zI l) = True := zeq_t (q.mpr h)
theorem m_factHere (hd : 3 ≤ d) (h : mTx T n a I A) : q_call q_MT d 195 [.ref 59] (zM I A W) = some (.inl (some (.int (zI (lFa T (sk T n a) (gE (qL' T) n (sk T n a)))))), zM (u2 I 59 4 (sk T n a)) A W) := by
  obtain ⟨d, rfl⟩ : ∃ e, d = e + 1 := ⟨d - 1, by omega⟩
  have sb := sk_b (T := T) h.2.2.2.2.2.1
  have ew := m_word (W := W) (d := d) (by omega) h
  have wb := wcd_b (T := T) sb.2
  have b := fun (i : Nat) (hi : i < 19) => lcs_b ⟨i, hi⟩
  have q := fun (i : Nat) (hi : i < 19) => wcd_q (T := T) (n := n) (b := sk T n a) (i := i) hi sb.2
  have o7 : ∀ {h : qH} {kx : Nat → Nat → qH → qR} {k : Int32 → qH → qR}, q_rI (q_call q_MT d 174 [.float 7] h) kx k = k (zI (lcs 7)) h := fun {h kx k} => cI (m_ofs (by omega) (by decide))
  have o8 : ∀ {h : qH} {kx : Nat → Nat → qH → qR} {k : Int32 → qH → qR}, q_rI (q_call q_MT d 174 [.float 8] h) kx k = k (zI (lcs 8)) h := fun {h kx k} => cI (m_ofs (by omega) (by decide))
  have o4 : ∀ {h : qH} {kx : Nat → Nat → qH → qR} {k : Int32 → qH → qR}, q_rI (q_call q_MT d 174 [.float 4] h) kx k = k (zI (lcs 4)) h := fun {h kx k} => cI (m_ofs (by omega) (by decide))
  have o9 : ∀ {h : qH} {kx : Nat → Nat → qH → qR} {k : Int32 → qH → qR}, q_rI (q_call q_MT d 174 [.float 9] h) kx k = k (zI (lcs 9)) h := fun {h kx k} => cI (m_ofs (by omega) (by decide))
  have o10 : ∀ {h : qH} {kx : Nat → Nat → qH → qR} {k : Int32 → qH → qR}, q_rI (q_call q_MT d 174 [.float 10] h) kx k = k (zI (lcs 10)) h := fun {h kx k} => cI (m_ofs (by omega) (by decide))
  have o11 : ∀ {h : qH} {kx : Nat → Nat → qH → qR} {k : Int32 → qH → qR}, q_rI (q_call q_MT d 174 [.float 11] h) kx k = k (zI (lcs 11)) h := fun {h kx k} => cI (m_ofs (by omega) (by decide))
  have o12 : ∀ {h : qH} {kx : Nat → Nat → qH → qR} {k : Int32 → qH → qR}, q_rI (q_call q_MT d 174 [.float 12] h) kx k = k (zI (lcs 12)) h := fun {h kx k} => cI (m_ofs (by omega) (by decide))
  have o13 : ∀ {h : qH} {kx : Nat → Nat → qH → qR} {k : Int32 → qH → qR}, q_rI (q_call q_MT d 174 [.float 13] h) kx k = k (zI (lcs 13)) h := fun {h kx k} => cI (m_ofs (by omega) (by decide))
  have o14 : ∀ {h : qH} {kx : Nat → Nat → qH → qR} {k : Int32 → qH → qR}, q_rI (q_call q_MT d 174 [.float 14] h) kx k = k (zI (lcs 14)) h := fun {h kx k} => cI (m_ofs (by omega) (by decide))
  rw [cl_X11_factHere]
  unfold lFa
  generalize wcd T (sk T n a) (gE (qL' T) n (sk T n a)) = w at ew wb q
  by_cases w7 : wq T (sk T n a) (gE (qL' T) n (sk T n a)) 7
  · have z7 := zye (q 7 (by decide)) w7
    rw [if_pos w7]
    simp (implicitDefEqProofs := false) (disch := omega) only [↓rI_s, ↓rV_s, ↓rI_e, ↓rV_e, zc_eq, zc_ne, zc_lt, zc_ge, zc_gt, zc_le, zlt_t, zlt_f, zle_t, zle_f, zeq_t, zeq_f, lz, zadd, zsub, zmul, zneg, zb_e0, zb_e1, boo0, boo1, ua_s, ua_n, ua_ua, up_s, u2_s, u2_f, u2_c, u2_u2, Int.natCast_add, Int.zero_add, Int.add_zero, ↓reduceIte, ne_eq, not_true_eq_false, not_false_eq_true, Int.natCast_one, ↓k_X11_factHere_0, ↓mc_59, ↓cI ew, ↓o7, ↓o8, ↓o4, ↓o9, ↓o10, ↓o11, ↓o12, ↓o13, ↓o14, z7, ↓k_X11_factHere_103, ↓k_X11_factHere_134]
  have z7 := zne (q 7 (by decide)) w7 wb (b 7 (by decide))
  rw [if_neg w7]
  by_cases w8 : wq T (sk T n a) (gE (qL' T) n (sk T n a)) 8
  · have z8 := zye (q 8 (by decide)) w8
    rw [if_pos w8]
    simp (implicitDefEqProofs := false) (disch := omega) only [↓rI_s, ↓rV_s, ↓rI_e, ↓rV_e, zc_eq, zc_ne, zc_lt, zc_ge, zc_gt, zc_le, zlt_t, zlt_f, zle_t, zle_f, zeq_t, zeq_f, lz, zadd, zsub, zmul, zneg, zb_e0, zb_e1, boo0, boo1, ua_s, ua_n, ua_ua, up_s, u2_s, u2_f, u2_c, u2_u2, Int.natCast_add, Int.zero_add, Int.add_zero, ↓reduceIte, ne_eq, not_true_eq_false, not_false_eq_true, Int.natCast_one, ↓k_X11_factHere_0, ↓mc_59, ↓cI ew, ↓o7, ↓o8, ↓o4, ↓o9, ↓o10, ↓o11, ↓o12, ↓o13, ↓o14, z7, z8, ↓k_X11_factHere_103, ↓k_X11_factHere_134]
  have z8 := zne (q 8 (by decide)) w8 wb (b 8 (by decide))
  rw [if_neg w8]
  by_cases w4 : wq T (sk T n a) (gE (qL' T) n (sk T n a)) 4
  · have z4 := zye (q 4 (by decide)) w4
    rw [if_pos w4]
    simp (implicitDefEqProofs := false) (disch := omega) only [↓rI_s, ↓rV_s, ↓rI_e, ↓rV_e, zc_eq, zc_ne, zc_lt, zc_ge, zc_gt, zc_le, zlt_t, zlt_f, zle_t, zle_f, zeq_t, zeq_f, lz, zadd, zsub, zmul, zneg, zb_e0, zb_e1, boo0, boo1, ua_s, ua_n, ua_ua, up_s, u2_s, u2_f, u2_c, u2_u2, Int.natCast_add, Int.zero_add, Int.add_zero, ↓reduceIte, ne_eq, not_true_eq_false, not_false_eq_true, Int.natCast_one, ↓k_X11_factHere_0, ↓mc_59, ↓cI ew, ↓o7, ↓o8, ↓o4, ↓o9, ↓o10, ↓o11, ↓o12, ↓o13, ↓o14, z7, z8, z4, ↓k_X11_factHere_103, ↓k_X11_factHere_134]
  have z4 := zne (q 4 (by decide)) w4 wb (b 4 (by decide))
  rw [if_neg w4]
  by_cases w9 : wq T (sk T n a) (gE (qL' T) n (sk T n a)) 9
  · have z9 := zye (q 9 (by decide)) w9
    rw [if_pos w9]
    simp (implicitDefEqProofs := false) (disch := omega) only [↓rI_s, ↓rV_s, ↓rI_e, ↓rV_e, zc_eq, zc_ne, zc_lt, zc_ge, zc_gt, zc_le, zlt_t, zlt_f, zle_t, zle_f, zeq_t, zeq_f, lz, zadd, zsub, zmul, zneg, zb_e0, zb_e1, boo0, boo1, ua_s, ua_n, ua_ua, up_s, u2_s, u2_f, u2_c, u2_u2, Int.natCast_add, Int.zero_add, Int.add_zero, ↓reduceIte, ne_eq, not_true_eq_false, not_false_eq_true, Int.natCast_one, ↓k_X11_factHere_0, ↓mc_59, ↓cI ew, ↓o7, ↓o8, ↓o4, ↓o9, ↓o10, ↓o11, ↓o12, ↓o13, ↓o14, z7, z8, z4, z9, ↓k_X11_factHere_103, ↓k_X11_factHere_134]
  have z9 := zne (q 9 (by decide)) w9 wb (b 9 (by decide))
  rw [if_neg w9]
  by_cases w10 : wq T (sk T n a) (gE (qL' T) n (sk T n a)) 10
  · have z10 := zye (q 10 (by decide)) w10
    rw [if_pos w10]
    simp (implicitDefEqProofs := false) (disch := omega) only [↓rI_s, ↓rV_s, ↓rI_e, ↓rV_e, zc_eq, zc_ne, zc_lt, zc_ge, zc_gt, zc_le, zlt_t, zlt_f, zle_t, zle_f, zeq_t, zeq_f, lz, zadd, zsub, zmul, zneg, zb_e0, zb_e1, boo0, boo1, ua_s, ua_n, ua_ua, up_s, u2_s, u2_f, u2_c, u2_u2, Int.natCast_add, Int.zero_add, Int.add_zero, ↓reduceIte, ne_eq, not_true_eq_false, not_false_eq_true, Int.natCast_one, ↓k_X11_factHere_0, ↓mc_59, ↓cI ew, ↓o7, ↓o8, ↓o4, ↓o9, ↓o10, ↓o11, ↓o12, ↓o13, ↓o14, z7, z8, z4, z9, z10, ↓k_X11_factHere_103, ↓k_X11_factHere_134]
  have z10 := zne (q 10 (by decide)) w10 wb (b 10 (by decide))
  rw [if_neg w10]
  by_cases w11 : wq T (sk T n a) (gE (qL' T) n (sk T n a)) 11
  · have z11 := zye (q 11 (by decide)) w11
    rw [if_pos w11]
    simp (implicitDefEqProofs := false) (disch := omega) only [↓rI_s, ↓rV_s, ↓rI_e, ↓rV_e, zc_eq, zc_ne, zc_lt, zc_ge, zc_gt, zc_le, zlt_t, zlt_f, zle_t, zle_f, zeq_t, zeq_f, lz, zadd, zsub, zmul, zneg, zb_e0, zb_e1, boo0, boo1, ua_s, ua_n, ua_ua, up_s, u2_s, u2_f, u2_c, u2_u2, Int.natCast_add, Int.zero_add, Int.add_zero, ↓reduceIte, ne_eq, not_true_eq_false, not_false_eq_true, Int.natCast_one, ↓k_X11_factHere_0, ↓mc_59, ↓cI ew, ↓o7, ↓o8, ↓o4, ↓o9, ↓o10, ↓o11, ↓o12, ↓o13, ↓o14, z7, z8, z4, z9, z10, z11, ↓k_X11_factHere_103, ↓k_X11_factHere_134]
  have z11 := zne (q 11 (by decide)) w11 wb (b 11 (by decide))
  rw [if_neg w11]
  by_cases w12 : wq T (sk T n a) (gE (qL' T) n (sk T n a)) 12
  · have z12 := zye (q 12 (by decide)) w12
    rw [if_pos w12]
    simp (implicitDefEqProofs := false) (disch := omega) only [↓rI_s, ↓rV_s, ↓rI_e, ↓rV_e, zc_eq, zc_ne, zc_lt, zc_ge, zc_gt, zc_le, zlt_t, zlt_f, zle_t, zle_f, zeq_t, zeq_f, lz, zadd, zsub, zmul, zneg, zb_e0, zb_e1, boo0, boo1, ua_s, ua_n, ua_ua, up_s, u2_s, u2_f, u2_c, u2_u2, Int.natCast_add, Int.zero_add, Int.add_zero, ↓reduceIte, ne_eq, not_true_eq_false, not_false_eq_true, Int.natCast_one, ↓k_X11_factHere_0, ↓mc_59, ↓cI ew, ↓o7, ↓o8, ↓o4, ↓o9, ↓o10, ↓o11, ↓o12, ↓o13, ↓o14, z7, z8, z4, z9, z10, z11, z12, ↓k_X11_factHere_103, ↓k_X11_factHere_134]
  have z12 := zne (q 12 (by decide)) w12 wb (b 12 (by decide))
  rw [if_neg w12]
  by_cases w13 : wq T (sk T n a) (gE (qL' T) n (sk T n a)) 13
  · have z13 := zye (q 13 (by decide)) w13
    rw [if_pos w13]
    simp (implicitDefEqProofs := false) (disch := omega) only [↓rI_s, ↓rV_s, ↓rI_e, ↓rV_e, zc_eq, zc_ne, zc_lt, zc_ge, zc_gt, zc_le, zlt_t, zlt_f, zle_t, zle_f, zeq_t, zeq_f, lz, zadd, zsub, zmul, zneg, zb_e0, zb_e1, boo0, boo1, ua_s, ua_n, ua_ua, up_s, u2_s, u2_f, u2_c, u2_u2, Int.natCast_add, Int.zero_add, Int.add_zero, ↓reduceIte, ne_eq, not_true_eq_false, not_false_eq_true, Int.natCast_one, ↓k_X11_factHere_0, ↓mc_59, ↓cI ew, ↓o7, ↓o8, ↓o4, ↓o9, ↓o10, ↓o11, ↓o12, ↓o13, ↓o14, z7, z8, z4, z9, z10, z11, z12, z13, ↓k_X11_factHere_103, ↓k_X11_factHere_134]
  have z13 := zne (q 13 (by decide)) w13 wb (b 13 (by decide))
  rw [if_neg w13]
  by_cases w14 : wq T (sk T n a) (gE (qL' T) n (sk T n a)) 14
  · have z14 := zye (q 14 (by decide)) w14
    rw [if_pos w14]
    simp (implicitDefEqProofs := false) (disch := omega) only [↓rI_s, ↓rV_s, ↓rI_e, ↓rV_e, zc_eq, zc_ne, zc_lt, zc_ge, zc_gt, zc_le, zlt_t, zlt_f, zle_t, zle_f, zeq_t, zeq_f, lz, zadd, zsub, zmul, zneg, zb_e0, zb_e1, boo0, boo1, ua_s, ua_n, ua_ua, up_s, u2_s, u2_f, u2_c, u2_u2, Int.natCast_add, Int.zero_add, Int.add_zero, ↓reduceIte, ne_eq, not_true_eq_false, not_false_eq_true, Int.natCast_one, ↓k_X11_factHere_0, ↓mc_59, ↓cI ew, ↓o7, ↓o8, ↓o4, ↓o9, ↓o10, ↓o11, ↓o12, ↓o13, ↓o14, z7, z8, z4, z9, z10, z11, z12, z13, z14, ↓k_X11_factHere_103, ↓k_X11_factHere_134]
  have z14 := zne (q 14 (by decide)) w14 wb (b 14 (by decide))
  rw [if_neg w14]
  simp (implicitDefEqProofs := false) (disch := omega) only [↓rI_s, ↓rV_s, ↓rI_e, ↓rV_e, zc_eq, zc_ne, zc_lt, zc_ge, zc_gt, zc_le, zlt_t, zlt_f, zle_t, zle_f, zeq_t, zeq_f, lz, zadd, zsub, zmul, zneg, zb_e0, zb_e1, boo0, boo1, ua_s, ua_n, ua_ua, up_s, u2_s, u2_f, u2_c, u2_u2, Int.natCast_add, Int.zero_add, Int.add_zero, ↓reduceIte, ne_eq, not_true_eq_false, not_false_eq_true, Int.natCast_one, ↓k_X11_factHere_0, ↓mc_59, ↓cI ew, ↓o7, ↓o8, ↓o4, ↓o9, ↓o10, ↓o11, ↓o12, ↓o13, ↓o14, z7, z8, z4, z9, z10, z11, z12, z13, z14, ↓k_X11_factHere_103, ↓k_X11_factHere_134]
end LM
