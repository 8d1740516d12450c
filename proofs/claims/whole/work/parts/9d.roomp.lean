--DEPS 9c.roomn
section MP
variable {d : Nat} {I I' : Nat → Nat → Int} {A : Nat → Int → Int} {W : qWt} {T : Int → Int} {n a : Int} {D : zD} {c : Nat} {l1 l3 : Value}
def rK (i : Nat) (T : Int → Int) (n : Int) (D : zD) (a : Int) : zE (Int × zD) := match i with
  | 0 => rHo T n D a
  | 1 => rWi T n D a
  | 2 => rCu T n D a
  | 3 => rFe T n D a
  | _ => rNa T n D a
def rLim (i c : Nat) (D : zD) : Prop := c = 60 ∨ (i = 0 ∧ D.1 0 = 5) ∨ (i = 1 ∧ D.1 1 = 10) ∨ (i = 2 ∧ D.1 2 = 4)
theorem rmC_w {i : Nat} (hi : i < 5) (w : wq T (sk T n a) (gE (qL' T) n (sk T n a)) i) (hc : c ≤ 60) (hk : dOK D) : (rLim i c D ∧ rmC T n (c < 60) D a = .inl (3, sk T n a)) ∨ (¬ rLim i c D ∧ rmC T n (c < 60) D a = rK i T n D (gE (qL' T) n (sk T n a))) := by
  have k0 := hk.1
  have k1 := hk.2.1
  have k2 := hk.2.2.1
  have nx : ∀ j : Nat, j < 19 → j ≠ i → ¬ wq T (sk T n a) (gE (qL' T) n (sk T n a)) j := fun j hj hn => wq_x w (by omega) hj hn
  have h5 : i = 0 ∨ i = 1 ∨ i = 2 ∨ i = 3 ∨ i = 4 := by omega
  unfold rmC rLim
  rcases h5 with rfl | rfl | rfl | rfl | rfl
  · rw [if_pos w]
    by_cases q : c < 60 ∧ D.1 0 < 5
    · rw [if_pos q]; exact .inr ⟨by omega, rfl⟩
    · rw [if_neg q]; exact .inl ⟨by omega, rfl⟩
  · rw [if_neg (nx 0 (by decide) (by decide)), if_pos w]
    by_cases q : c < 60 ∧ D.1 1 < 10
    · rw [if_pos q]; exact .inr ⟨by omega, rfl⟩
    · rw [if_neg q]; exact .inl ⟨by omega, rfl⟩
  · rw [if_neg (nx 0 (by decide) (by decide)), if_neg (nx 1 (by decide) (by decide)), if_pos w]
    by_cases q : c < 60 ∧ D.1 2 < 4
    · rw [if_pos q]; exact .inr ⟨by omega, rfl⟩
    · rw [if_neg q]; exact .inl ⟨by omega, rfl⟩
  · rw [if_neg (nx 0 (by decide) (by decide)), if_neg (nx 1 (by decide) (by decide)), if_neg (nx 2 (by decide) (by decide)), if_pos w]
    by_cases q : c < 60
    · rw [if_pos q]; exact .inr ⟨by omega, rfl⟩
    · rw [if_neg q]; exact .inl ⟨by omega, rfl⟩
  · rw [if_neg (nx 0 (by decide) (by decide)), if_neg (nx 1 (by decide) (by decide)), if_neg (nx 2 (by decide) (by decide)), if_neg (nx 3 (by decide) (by decide)), if_pos w]
    by_cases q : c < 60
    · rw [if_pos q]; exact .inr ⟨by omega, rfl⟩
    · rw [if_neg q]; exact .inl ⟨by omega, rfl⟩
theorem rmC_n (w : ∀ j : Nat, j < 5 → ¬ wq T (sk T n a) (gE (qL' T) n (sk T n a)) j) : rmC T n (c < 60) D a = .inl (1, sk T n a) := by
  unfold rmC
  rw [if_neg (w 0 (by decide)), if_neg (w 1 (by decide)), if_neg (w 2 (by decide)), if_neg (w 3 (by decide)), if_neg (w 4 (by decide))]
theorem m_rowI {i : Nat} (hi : i < 5) (hd : 4 ≤ d) (h : mTx T n a I A) (hb5 : I 59 5 = -1) (hD : mD D I A) (hk : dOK D) (hl : ¬ rLim i c D) : mE T n qK5 qL5 I A W (q_call q_MT d 187 [.ref 59, .int (zI (lcs i))] (zM I A W)) mD (rK i T n D a) := by
  have k0 := hk.1
  have k1 := hk.2.1
  have k2 := hk.2.2.1
  unfold rLim at hl
  have h5 : i = 0 ∨ i = 1 ∨ i = 2 ∨ i = 3 ∨ i = 4 := by omega
  rcases h5 with rfl | rfl | rfl | rfl | rfl
  · exact m_row0 (by omega) h hb5 hD hk (by omega)
  · exact m_row1 (by omega) h hb5 hD hk (by omega)
  · exact m_row2 (by omega) h hb5 hD hk (by omega)
  · exact m_row3 (by omega) h hb5 hD
  · exact m_row4 (by omega) h hb5 hD
theorem m_isRow1 {i : Nat} {h : qH} (hi : i < 5) (hd : 2 ≤ d) : q_call q_MT d 185 [.int (zI (lcs i))] h = some (.inl (some (.int (zI 1))), h) := by
  obtain ⟨d, rfl⟩ : ∃ e, d = e + 1 := ⟨d - 1, by omega⟩
  have o0 : ∀ {h : qH} {kx : Nat → Nat → qH → qR} {k : Int32 → qH → qR}, q_rI (q_call q_MT d 174 [.float 0] h) kx k = k (zI (lcs 0)) h := fun {h kx k} => cI (m_ofs (by omega) (by decide))
  have o1 : ∀ {h : qH} {kx : Nat → Nat → qH → qR} {k : Int32 → qH → qR}, q_rI (q_call q_MT d 174 [.float 1] h) kx k = k (zI (lcs 1)) h := fun {h kx k} => cI (m_ofs (by omega) (by decide))
  have o2 : ∀ {h : qH} {kx : Nat → Nat → qH → qR} {k : Int32 → qH → qR}, q_rI (q_call q_MT d 174 [.float 2] h) kx k = k (zI (lcs 2)) h := fun {h kx k} => cI (m_ofs (by omega) (by decide))
  have o3 : ∀ {h : qH} {kx : Nat → Nat → qH → qR} {k : Int32 → qH → qR}, q_rI (q_call q_MT d 174 [.float 3] h) kx k = k (zI (lcs 3)) h := fun {h kx k} => cI (m_ofs (by omega) (by decide))
  have o4 : ∀ {h : qH} {kx : Nat → Nat → qH → qR} {k : Int32 → qH → qR}, q_rI (q_call q_MT d 174 [.float 4] h) kx k = k (zI (lcs 4)) h := fun {h kx k} => cI (m_ofs (by omega) (by decide))
  have ne : ∀ i j : Fin 19, i ≠ j → (zI (lcs i.val) = zI (lcs j.val)) = False := fun i j => by
    intro q
    have : ∀ i j : Fin 19, i ≠ j → zI (lcs i.val) ≠ zI (lcs j.val) := by decide
    exact eq_false (this i j q)
  rw [cl_X11_isRow]
  have h5 : i = 0 ∨ i = 1 ∨ i = 2 ∨ i = 3 ∨ i = 4 := by omega
  rcases h5 with rfl | rfl | rfl | rfl | rfl
  · simp (implicitDefEqProofs := false) (disch := omega) only [↓rI_s, ↓rV_s, ↓rI_e, ↓rV_e, zc_eq, zc_ne, zc_lt, zc_ge, zc_gt, zc_le, zlt_t, zlt_f, zle_t, zle_f, zeq_t, zeq_f, lz, zadd, zsub, zmul, zneg, zb_e0, zb_e1, boo0, boo1, ua_s, ua_n, ua_ua, up_s, u2_s, u2_f, u2_c, u2_u2, Int.natCast_add, Int.zero_add, Int.add_zero, ↓reduceIte, ne_eq, not_true_eq_false, not_false_eq_true, Int.natCast_one, ↓k_X11_isRow_0, ↓o0, ↓k_X11_isRow_45, ↓k_X11_isRow_50]
  · have n0 := ne ⟨1, by decide⟩ ⟨0, by decide⟩ (by decide)
    have n3 := ne ⟨1, by decide⟩ ⟨3, by decide⟩ (by decide)
    have n4 := ne ⟨1, by decide⟩ ⟨4, by decide⟩ (by decide)
    simp (implicitDefEqProofs := false) (disch := omega) only [↓rI_s, ↓rV_s, ↓rI_e, ↓rV_e, zc_eq, zc_ne, zc_lt, zc_ge, zc_gt, zc_le, zlt_t, zlt_f, zle_t, zle_f, zeq_t, zeq_f, lz, zadd, zsub, zmul, zneg, zb_e0, zb_e1, boo0, boo1, ua_s, ua_n, ua_ua, up_s, u2_s, u2_f, u2_c, u2_u2, Int.natCast_add, Int.zero_add, Int.add_zero, ↓reduceIte, ne_eq, not_true_eq_false, not_false_eq_true, Int.natCast_one, ↓k_X11_isRow_0, ↓o0, n0, ↓o3, n3, ↓o4, n4, ↓o1, ↓k_X11_isRow_45, ↓k_X11_isRow_50]
  · have n0 := ne ⟨2, by decide⟩ ⟨0, by decide⟩ (by decide)
    have n3 := ne ⟨2, by decide⟩ ⟨3, by decide⟩ (by decide)
    have n4 := ne ⟨2, by decide⟩ ⟨4, by decide⟩ (by decide)
    have n1 := ne ⟨2, by decide⟩ ⟨1, by decide⟩ (by decide)
    simp (implicitDefEqProofs := false) (disch := omega) only [↓rI_s, ↓rV_s, ↓rI_e, ↓rV_e, zc_eq, zc_ne, zc_lt, zc_ge, zc_gt, zc_le, zlt_t, zlt_f, zle_t, zle_f, zeq_t, zeq_f, lz, zadd, zsub, zmul, zneg, zb_e0, zb_e1, boo0, boo1, ua_s, ua_n, ua_ua, up_s, u2_s, u2_f, u2_c, u2_u2, Int.natCast_add, Int.zero_add, Int.add_zero, ↓reduceIte, ne_eq, not_true_eq_false, not_false_eq_true, Int.natCast_one, ↓k_X11_isRow_0, ↓o0, n0, ↓o3, n3, ↓o4, n4, ↓o1, n1, ↓o2, ↓k_X11_isRow_45, ↓k_X11_isRow_50]
  · have n0 := ne ⟨3, by decide⟩ ⟨0, by decide⟩ (by decide)
    simp (implicitDefEqProofs := false) (disch := omega) only [↓rI_s, ↓rV_s, ↓rI_e, ↓rV_e, zc_eq, zc_ne, zc_lt, zc_ge, zc_gt, zc_le, zlt_t, zlt_f, zle_t, zle_f, zeq_t, zeq_f, lz, zadd, zsub, zmul, zneg, zb_e0, zb_e1, boo0, boo1, ua_s, ua_n, ua_ua, up_s, u2_s, u2_f, u2_c, u2_u2, Int.natCast_add, Int.zero_add, Int.add_zero, ↓reduceIte, ne_eq, not_true_eq_false, not_false_eq_true, Int.natCast_one, ↓k_X11_isRow_0, ↓o0, n0, ↓o3, ↓k_X11_isRow_45, ↓k_X11_isRow_50]
  · have n0 := ne ⟨4, by decide⟩ ⟨0, by decide⟩ (by decide)
    have n3 := ne ⟨4, by decide⟩ ⟨3, by decide⟩ (by decide)
    simp (implicitDefEqProofs := false) (disch := omega) only [↓rI_s, ↓rV_s, ↓rI_e, ↓rV_e, zc_eq, zc_ne, zc_lt, zc_ge, zc_gt, zc_le, zlt_t, zlt_f, zle_t, zle_f, zeq_t, zeq_f, lz, zadd, zsub, zmul, zneg, zb_e0, zb_e1, boo0, boo1, ua_s, ua_n, ua_ua, up_s, u2_s, u2_f, u2_c, u2_u2, Int.natCast_add, Int.zero_add, Int.add_zero, ↓reduceIte, ne_eq, not_true_eq_false, not_false_eq_true, Int.natCast_one, ↓k_X11_isRow_0, ↓o0, n0, ↓o3, n3, ↓o4, ↓k_X11_isRow_45, ↓k_X11_isRow_50]
theorem m_isRow0 {w : Int} {h : qH} (hd : 2 ≤ d) (hw : 0 ≤ w ∧ w < 1073741824) (hn : ∀ j : Nat, j < 5 → w ≠ lcs j) : q_call q_MT d 185 [.int (zI w)] h = some (.inl (some (.int (zI 0))), h) := by
  obtain ⟨d, rfl⟩ : ∃ e, d = e + 1 := ⟨d - 1, by omega⟩
  have o0 : ∀ {h : qH} {kx : Nat → Nat → qH → qR} {k : Int32 → qH → qR}, q_rI (q_call q_MT d 174 [.float 0] h) kx k = k (zI (lcs 0)) h := fun {h kx k} => cI (m_ofs (by omega) (by decide))
  have b0 := lcs_b ⟨0, by decide⟩
  have n0 := hn 0 (by decide)
  dsimp only at b0
  have o1 : ∀ {h : qH} {kx : Nat → Nat → qH → qR} {k : Int32 → qH → qR}, q_rI (q_call q_MT d 174 [.float 1] h) kx k = k (zI (lcs 1)) h := fun {h kx k} => cI (m_ofs (by omega) (by decide))
  have b1 := lcs_b ⟨1, by decide⟩
  have n1 := hn 1 (by decide)
  dsimp only at b1
  have o2 : ∀ {h : qH} {kx : Nat → Nat → qH → qR} {k : Int32 → qH → qR}, q_rI (q_call q_MT d 174 [.float 2] h) kx k = k (zI (lcs 2)) h := fun {h kx k} => cI (m_ofs (by omega) (by decide))
  have b2 := lcs_b ⟨2, by decide⟩
  have n2 := hn 2 (by decide)
  dsimp only at b2
  have o3 : ∀ {h : qH} {kx : Nat → Nat → qH → qR} {k : Int32 → qH → qR}, q_rI (q_call q_MT d 174 [.float 3] h) kx k = k (zI (lcs 3)) h := fun {h kx k} => cI (m_ofs (by omega) (by decide))
  have b3 := lcs_b ⟨3, by decide⟩
  have n3 := hn 3 (by decide)
  dsimp only at b3
  have o4 : ∀ {h : qH} {kx : Nat → Nat → qH → qR} {k : Int32 → qH → qR}, q_rI (q_call q_MT d 174 [.float 4] h) kx k = k (zI (lcs 4)) h := fun {h kx k} => cI (m_ofs (by omega) (by decide))
  have b4 := lcs_b ⟨4, by decide⟩
  have n4 := hn 4 (by decide)
  dsimp only at b4
  rw [cl_X11_isRow]
  simp (implicitDefEqProofs := false) (disch := omega) only [↓rI_s, ↓rV_s, ↓rI_e, ↓rV_e, zc_eq, zc_ne, zc_lt, zc_ge, zc_gt, zc_le, zlt_t, zlt_f, zle_t, zle_f, zeq_t, zeq_f, lz, zadd, zsub, zmul, zneg, zb_e0, zb_e1, boo0, boo1, ua_s, ua_n, ua_ua, up_s, u2_s, u2_f, u2_c, u2_u2, Int.natCast_add, Int.zero_add, Int.add_zero, ↓reduceIte, ne_eq, not_true_eq_false, not_false_eq_true, Int.natCast_one, ↓k_X11_isRow_0, ↓o0, ↓o3, ↓o4, ↓o1, ↓o2, ↓k_X11_isRow_45, ↓k_X11_isRow_50]
/-- up to the row that is told by a word -/
theorem m_to149 {i : Nat} (hi : i < 5) (hd : 4 ≤ d) (h : mTx T n a I A) (hb5 : I 59 5 = -1) (hD : mD D I A) (hk : dOK D) (hc : c ≤ 60) (hq : sk T n a < n) (w : wq T (sk T n a) (gE (qL' T) n (sk T n a)) i) (hl : ¬ rLim i c D) : q_run qm_X11_room (q_call q_MT d) 44 [.ref 59, .int (zI n), .int (zI c), l3] [] (zM I A W) = q_run qm_X11_room (q_call q_MT d) 149 [.ref 59, .int (zI n), .int (zI c), .int (zI (lcs i))] [] (zM (u2 I 59 4 (sk T n a)) A W) := by
  have k0 := hk.1
  have k1 := hk.2.1
  have k2 := hk.2.2.1
  have han := h.2.2.2.2.2.1
  have ha0 := h.2.2.2.2.1
  have sb := sk_b (T := T) han
  have f1 := m_fine (I := I) (A := A) (W := W) (d := d) (by omega) (by omega)
  rw [zb_t hb5] at f1
  have im := m_isMore (W := W) (d := d) (by omega) h
  rw [zb_t hq] at im
  have h' : mTx T n (sk T n a) (u2 I 59 4 (sk T n a)) A := h.u (u2_f (by decide)) u2_s (by omega) sb.2
  have ew := m_word (W := W) (d := d) (by omega) h'
  rw [sk_sk han, u2_u2, (wcd_q (by omega) sb.2).mpr w] at ew
  have o0 : ∀ {h : qH} {kx : Nat → Nat → qH → qR} {k : Int32 → qH → qR}, q_rI (q_call q_MT d 174 [.float 0] h) kx k = k (zI (lcs 0)) h := fun {h kx k} => cI (m_ofs (by omega) (by decide))
  have o1 : ∀ {h : qH} {kx : Nat → Nat → qH → qR} {k : Int32 → qH → qR}, q_rI (q_call q_MT d 174 [.float 1] h) kx k = k (zI (lcs 1)) h := fun {h kx k} => cI (m_ofs (by omega) (by decide))
  have o2 : ∀ {h : qH} {kx : Nat → Nat → qH → qR} {k : Int32 → qH → qR}, q_rI (q_call q_MT d 174 [.float 2] h) kx k = k (zI (lcs 2)) h := fun {h kx k} => cI (m_ofs (by omega) (by decide))
  have ne : ∀ i j : Fin 19, i ≠ j → (zI (lcs i.val) = zI (lcs j.val)) = False := fun i j => by
    intro q
    have : ∀ i j : Fin 19, i ≠ j → zI (lcs i.val) ≠ zI (lcs j.val) := by decide
    exact eq_false (this i j q)
  have er := m_isRow1 (h := zM (u2 I 59 4 (sk T n a)) A W) (d := d) hi (by omega)
  obtain ⟨j0, j1, j2, -⟩ := hD
  unfold rLim at hl
  have c6 : (c : Int) < 60 := by omega
  rw [k_X11_room_44]
  have h5 : i = 0 ∨ i = 1 ∨ i = 2 ∨ i = 3 ∨ i = 4 := by omega
  rcases h5 with rfl | rfl | rfl | rfl | rfl
  · have n1 := ne ⟨0, by decide⟩ ⟨1, by decide⟩ (by decide)
    have n2 := ne ⟨0, by decide⟩ ⟨2, by decide⟩ (by decide)
    have : D.1 0 < 5 := by omega
    simp (implicitDefEqProofs := false) (disch := omega) only [↓rI_s, ↓rV_s, ↓rI_e, ↓rV_e, zc_eq, zc_ne, zc_lt, zc_ge, zc_gt, zc_le, zlt_t, zlt_f, zle_t, zle_f, zeq_t, zeq_f, lz, zadd, zsub, zmul, zneg, zb_e0, zb_e1, boo0, boo1, ua_s, ua_n, ua_ua, up_s, u2_s, u2_f, u2_c, u2_u2, Int.natCast_add, Int.zero_add, Int.add_zero, ↓reduceIte, ne_eq, not_true_eq_false, not_false_eq_true, Int.natCast_one, ↓mc_59, ↓cI f1, ↓cI im, ↓cI ew, ↓cI er, ↓o0, ↓zg_59_16, j0, ↓k_X11_room_105, ↓o1, n1, ↓k_X11_room_123, ↓o2, n2]
  · have n0 := ne ⟨1, by decide⟩ ⟨0, by decide⟩ (by decide)
    have n2 := ne ⟨1, by decide⟩ ⟨2, by decide⟩ (by decide)
    have : D.1 1 < 10 := by omega
    simp (implicitDefEqProofs := false) (disch := omega) only [↓rI_s, ↓rV_s, ↓rI_e, ↓rV_e, zc_eq, zc_ne, zc_lt, zc_ge, zc_gt, zc_le, zlt_t, zlt_f, zle_t, zle_f, zeq_t, zeq_f, lz, zadd, zsub, zmul, zneg, zb_e0, zb_e1, boo0, boo1, ua_s, ua_n, ua_ua, up_s, u2_s, u2_f, u2_c, u2_u2, Int.natCast_add, Int.zero_add, Int.add_zero, ↓reduceIte, ne_eq, not_true_eq_false, not_false_eq_true, Int.natCast_one, ↓mc_59, ↓cI f1, ↓cI im, ↓cI ew, ↓cI er, ↓o0, n0, ↓k_X11_room_105, ↓o1, ↓zg_59_17, j1, ↓k_X11_room_123, ↓o2, n2]
  · have n0 := ne ⟨2, by decide⟩ ⟨0, by decide⟩ (by decide)
    have n1 := ne ⟨2, by decide⟩ ⟨1, by decide⟩ (by decide)
    have : D.1 2 < 4 := by omega
    simp (implicitDefEqProofs := false) (disch := omega) only [↓rI_s, ↓rV_s, ↓rI_e, ↓rV_e, zc_eq, zc_ne, zc_lt, zc_ge, zc_gt, zc_le, zlt_t, zlt_f, zle_t, zle_f, zeq_t, zeq_f, lz, zadd, zsub, zmul, zneg, zb_e0, zb_e1, boo0, boo1, ua_s, ua_n, ua_ua, up_s, u2_s, u2_f, u2_c, u2_u2, Int.natCast_add, Int.zero_add, Int.add_zero, ↓reduceIte, ne_eq, not_true_eq_false, not_false_eq_true, Int.natCast_one, ↓mc_59, ↓cI f1, ↓cI im, ↓cI ew, ↓cI er, ↓o0, n0, ↓k_X11_room_105, ↓o1, n1, ↓k_X11_room_123, ↓o2, ↓zg_59_18, j2]
  · have n0 := ne ⟨3, by decide⟩ ⟨0, by decide⟩ (by decide)
    have n1 := ne ⟨3, by decide⟩ ⟨1, by decide⟩ (by decide)
    have n2 := ne ⟨3, by decide⟩ ⟨2, by decide⟩ (by decide)
    simp (implicitDefEqProofs := false) (disch := omega) only [↓rI_s, ↓rV_s, ↓rI_e, ↓rV_e, zc_eq, zc_ne, zc_lt, zc_ge, zc_gt, zc_le, zlt_t, zlt_f, zle_t, zle_f, zeq_t, zeq_f, lz, zadd, zsub, zmul, zneg, zb_e0, zb_e1, boo0, boo1, ua_s, ua_n, ua_ua, up_s, u2_s, u2_f, u2_c, u2_u2, Int.natCast_add, Int.zero_add, Int.add_zero, ↓reduceIte, ne_eq, not_true_eq_false, not_false_eq_true, Int.natCast_one, ↓mc_59, ↓cI f1, ↓cI im, ↓cI ew, ↓cI er, ↓o0, n0, ↓k_X11_room_105, ↓o1, n1, ↓k_X11_room_123, ↓o2, n2]
  · have n0 := ne ⟨4, by decide⟩ ⟨0, by decide⟩ (by decide)
    have n1 := ne ⟨4, by decide⟩ ⟨1, by decide⟩ (by decide)
    have n2 := ne ⟨4, by decide⟩ ⟨2, by decide⟩ (by decide)
    simp (implicitDefEqProofs := false) (disch := omega) only [↓rI_s, ↓rV_s, ↓rI_e, ↓rV_e, zc_eq, zc_ne, zc_lt, zc_ge, zc_gt, zc_le, zlt_t, zlt_f, zle_t, zle_f, zeq_t, zeq_f, lz, zadd, zsub, zmul, zneg, zb_e0, zb_e1, boo0, boo1, ua_s, ua_n, ua_ua, up_s, u2_s, u2_f, u2_c, u2_u2, Int.natCast_add, Int.zero_add, Int.add_zero, ↓reduceIte, ne_eq, not_true_eq_false, not_false_eq_true, Int.natCast_one, ↓mc_59, ↓cI f1, ↓cI im, ↓cI ew, ↓cI er, ↓o0, n0, ↓k_X11_room_105, ↓o1, n1, ↓k_X11_room_123, ↓o2, n2]
theorem m_lim {i : Nat} (hi : i < 5) (hd : 4 ≤ d) (h : mTx T n a I A) (hb5 : I 59 5 = -1) (hD : mD D I A) (hk : dOK D) (hc : c ≤ 60) (hq : sk T n a < n) (w : wq T (sk T n a) (gE (qL' T) n (sk T n a)) i) (hl : rLim i c D) : q_run qm_X11_room (q_call q_MT d) 44 [.ref 59, .int (zI n), .int (zI c), l3] [] (zM I A W) = q_run qm_X11_room (q_call q_MT d) 180 [.ref 59, .int (zI n), .int (zI c), .int (zI (lcs i))] [] (zM (u2 (u2 (u2 I 59 4 (sk T n a)) 59 5 (sk T n a)) 59 6 3) A W) := by
  have k0 := hk.1
  have k1 := hk.2.1
  have k2 := hk.2.2.1
  have han := h.2.2.2.2.2.1
  have ha0 := h.2.2.2.2.1
  have hn6 := h.2.2.2.2.2.2
  have sb := sk_b (T := T) han
  have f1 := m_fine (I := I) (A := A) (W := W) (d := d) (by omega) (by omega)
  rw [zb_t hb5] at f1
  have im := m_isMore (W := W) (d := d) (by omega) h
  rw [zb_t hq] at im
  have h' : mTx T n (sk T n a) (u2 I 59 4 (sk T n a)) A := h.u (u2_f (by decide)) u2_s (by omega) sb.2
  have ew := m_word (W := W) (d := d) (by omega) h'
  rw [sk_sk han, u2_u2, (wcd_q (by omega) sb.2).mpr w] at ew
  have o0 : ∀ {h : qH} {kx : Nat → Nat → qH → qR} {k : Int32 → qH → qR}, q_rI (q_call q_MT d 174 [.float 0] h) kx k = k (zI (lcs 0)) h := fun {h kx k} => cI (m_ofs (by omega) (by decide))
  have o1 : ∀ {h : qH} {kx : Nat → Nat → qH → qR} {k : Int32 → qH → qR}, q_rI (q_call q_MT d 174 [.float 1] h) kx k = k (zI (lcs 1)) h := fun {h kx k} => cI (m_ofs (by omega) (by decide))
  have o2 : ∀ {h : qH} {kx : Nat → Nat → qH → qR} {k : Int32 → qH → qR}, q_rI (q_call q_MT d 174 [.float 2] h) kx k = k (zI (lcs 2)) h := fun {h kx k} => cI (m_ofs (by omega) (by decide))
  have ne : ∀ i j : Fin 19, i ≠ j → (zI (lcs i.val) = zI (lcs j.val)) = False := fun i j => by
    intro q
    have : ∀ i j : Fin 19, i ≠ j → zI (lcs i.val) ≠ zI (lcs j.val) := by decide
    exact eq_false (this i j q)
  have er := m_isRow1 (h := zM (u2 I 59 4 (sk T n a)) A W) (d := d) hi (by omega)
  have ex := m_wrong (I := u2 I 59 4 (sk T n a)) (A := A) (W := W) (d := d) (k := 3) (p := sk T n a) (by omega) (by rw [u2_f (by decide)]; exact hb5)
  have f3 := m_fine (I := u2 (u2 (u2 I 59 4 (sk T n a)) 59 5 (sk T n a)) 59 6 3) (A := A) (W := W) (d := d) (by omega) (by rw [u2_f (by decide), u2_s]; omega)
  rw [zb_f (by rw [u2_f (by decide), u2_s]; omega)] at f3
  obtain ⟨j0, j1, j2, -⟩ := hD
  unfold rLim at hl
  rw [k_X11_room_44]
  by_cases c6 : c = 60
  · subst c6
    simp (implicitDefEqProofs := false) (disch := omega) only [↓rI_s, ↓rV_s, ↓rI_e, ↓rV_e, zc_eq, zc_ne, zc_lt, zc_ge, zc_gt, zc_le, zlt_t, zlt_f, zle_t, zle_f, zeq_t, zeq_f, lz, zadd, zsub, zmul, zneg, zb_e0, zb_e1, boo0, boo1, ua_s, ua_n, ua_ua, up_s, u2_s, u2_f, u2_c, u2_u2, Int.natCast_add, Int.zero_add, Int.add_zero, ↓reduceIte, ne_eq, not_true_eq_false, not_false_eq_true, Int.natCast_one, ↓mc_59, ↓cI f1, ↓cI im, ↓cI ew, ↓cI er, ↓k_X11_room_140, ↓zg_59_4, ↓cV ex, ↓k_X11_room_149, ↓cI f3]
  · have c7 : (c : Int) < 60 := by omega
    have h5 : i = 0 ∨ i = 1 ∨ i = 2 := by omega
    rcases h5 with rfl | rfl | rfl
    · have : D.1 0 = 5 := by omega
      simp (implicitDefEqProofs := false) (disch := omega) only [↓rI_s, ↓rV_s, ↓rI_e, ↓rV_e, zc_eq, zc_ne, zc_lt, zc_ge, zc_gt, zc_le, zlt_t, zlt_f, zle_t, zle_f, zeq_t, zeq_f, lz, zadd, zsub, zmul, zneg, zb_e0, zb_e1, boo0, boo1, ua_s, ua_n, ua_ua, up_s, u2_s, u2_f, u2_c, u2_u2, Int.natCast_add, Int.zero_add, Int.add_zero, ↓reduceIte, ne_eq, not_true_eq_false, not_false_eq_true, Int.natCast_one, ↓mc_59, ↓cI f1, ↓cI im, ↓cI ew, ↓cI er, ↓o0, ↓zg_59_16, j0, ↓k_X11_room_140, ↓zg_59_4, ↓cV ex, ↓k_X11_room_149, ↓cI f3]
    · have n0 := ne ⟨1, by decide⟩ ⟨0, by decide⟩ (by decide)
      have : D.1 1 = 10 := by omega
      simp (implicitDefEqProofs := false) (disch := omega) only [↓rI_s, ↓rV_s, ↓rI_e, ↓rV_e, zc_eq, zc_ne, zc_lt, zc_ge, zc_gt, zc_le, zlt_t, zlt_f, zle_t, zle_f, zeq_t, zeq_f, lz, zadd, zsub, zmul, zneg, zb_e0, zb_e1, boo0, boo1, ua_s, ua_n, ua_ua, up_s, u2_s, u2_f, u2_c, u2_u2, Int.natCast_add, Int.zero_add, Int.add_zero, ↓reduceIte, ne_eq, not_true_eq_false, not_false_eq_true, Int.natCast_one, ↓mc_59, ↓cI f1, ↓cI im, ↓cI ew, ↓cI er, ↓o0, n0, ↓k_X11_room_105, ↓o1, ↓zg_59_17, j1, ↓k_X11_room_140, ↓zg_59_4, ↓cV ex, ↓k_X11_room_149, ↓cI f3]
    · have n0 := ne ⟨2, by decide⟩ ⟨0, by decide⟩ (by decide)
      have n1 := ne ⟨2, by decide⟩ ⟨1, by decide⟩ (by decide)
      have : D.1 2 = 4 := by omega
      simp (implicitDefEqProofs := false) (disch := omega) only [↓rI_s, ↓rV_s, ↓rI_e, ↓rV_e, zc_eq, zc_ne, zc_lt, zc_ge, zc_gt, zc_le, zlt_t, zlt_f, zle_t, zle_f, zeq_t, zeq_f, lz, zadd, zsub, zmul, zneg, zb_e0, zb_e1, boo0, boo1, ua_s, ua_n, ua_ua, up_s, u2_s, u2_f, u2_c, u2_u2, Int.natCast_add, Int.zero_add, Int.add_zero, ↓reduceIte, ne_eq, not_true_eq_false, not_false_eq_true, Int.natCast_one, ↓mc_59, ↓cI f1, ↓cI im, ↓cI ew, ↓cI er, ↓o0, n0, ↓k_X11_room_105, ↓o1, n1, ↓k_X11_room_123, ↓o2, ↓zg_59_18, j2, ↓k_X11_room_140, ↓zg_59_4, ↓cV ex, ↓k_X11_room_149, ↓cI f3]
theorem m_now (hd : 4 ≤ d) (h : mTx T n a I A) (hb5 : I 59 5 = -1) (hq : sk T n a < n) (w : ∀ j : Nat, j < 5 → ¬ wq T (sk T n a) (gE (qL' T) n (sk T n a)) j) : ∃ l3', q_run qm_X11_room (q_call q_MT d) 44 [.ref 59, .int (zI n), .int (zI c), l3] [] (zM I A W) = q_run qm_X11_room (q_call q_MT d) 180 [.ref 59, .int (zI n), .int (zI c), l3'] [] (zM (u2 (u2 (u2 I 59 4 (sk T n a)) 59 5 (sk T n a)) 59 6 1) A W) := by
  have han := h.2.2.2.2.2.1
  have ha0 := h.2.2.2.2.1
  have hn6 := h.2.2.2.2.2.2
  have sb := sk_b (T := T) han
  have f1 := m_fine (I := I) (A := A) (W := W) (d := d) (by omega) (by omega)
  rw [zb_t hb5] at f1
  have im := m_isMore (W := W) (d := d) (by omega) h
  rw [zb_t hq] at im
  have h' : mTx T n (sk T n a) (u2 I 59 4 (sk T n a)) A := h.u (u2_f (by decide)) u2_s (by omega) sb.2
  have ew := m_word (W := W) (d := d) (by omega) h'
  rw [sk_sk han, u2_u2] at ew
  have er := m_isRow0 (h := zM (u2 I 59 4 (sk T n a)) A W) (d := d) (w := wcd T (sk T n a) (gE (qL' T) n (sk T n a))) (by omega) (wcd_b sb.2) (fun j hj q => w j hj ((wcd_q (by omega) sb.2).mp q))
  have ex := m_wrong (I := u2 I 59 4 (sk T n a)) (A := A) (W := W) (d := d) (k := 1) (p := sk T n a) (by omega) (by rw [u2_f (by decide)]; exact hb5)
  have f3 := m_fine (I := u2 (u2 (u2 I 59 4 (sk T n a)) 59 5 (sk T n a)) 59 6 1) (A := A) (W := W) (d := d) (by omega) (by rw [u2_f (by decide), u2_s]; omega)
  rw [zb_f (by rw [u2_f (by decide), u2_s]; omega)] at f3
  refine ⟨.int (zI (wcd T (sk T n a) (gE (qL' T) n (sk T n a)))), ?_⟩
  rw [k_X11_room_44]
  simp (implicitDefEqProofs := false) (disch := omega) only [↓rI_s, ↓rV_s, ↓rI_e, ↓rV_e, zc_eq, zc_ne, zc_lt, zc_ge, zc_gt, zc_le, zlt_t, zlt_f, zle_t, zle_f, zeq_t, zeq_f, lz, zadd, zsub, zmul, zneg, zb_e0, zb_e1, boo0, boo1, ua_s, ua_n, ua_ua, up_s, u2_s, u2_f, u2_c, u2_u2, Int.natCast_add, Int.zero_add, Int.add_zero, ↓reduceIte, ne_eq, not_true_eq_false, not_false_eq_true, Int.natCast_one, ↓mc_59, ↓cI f1, ↓cI im, ↓cI ew, ↓cI er, ↓zg_59_4, ↓cV ex, ↓k_X11_room_149, ↓cI f3]
end MP
