--DEPS 9a.roomf
/-! ROOM, in the reference. -/
def lcs (i : Nat) : Int := lc (q_strs.getD i []) (q_strs.getD i []).length
theorem lcs_b : ∀ i : Fin 19, 0 ≤ lcs i.val ∧ lcs i.val < 1073741824 := by decide
theorem m_ofs {d i : Nat} {h : qH} (hd : 1 ≤ d) (hi : i < 19) : q_call q_MT d 174 [.float (UInt32.ofNat i)] h = some (.inl (some (.int (zI (lcs i)))), h) := m_of hd (strs_s ⟨i, hi⟩) (okS ⟨i, hi⟩)
theorem wcd_b {T : Int → Int} {n b : Int} (hb : b ≤ n) : 0 ≤ wcd T b (gE (qL' T) n b) ∧ wcd T b (gE (qL' T) n b) < 1073741824 := by
  have dg := gE_b (q := qL' T) (n := n) (a := b) hb
  unfold wcd
  split
  · omega
  · have := wc_b (T := T) (b := b) (gE (qL' T) n b - b).toNat (by omega) (fun j hj => of_decide_eq_true (dg.2.2.2 (b + j) (by omega) (by omega)))
    omega
theorem wcd_q {T : Int → Int} {n b : Int} {i : Nat} (hi : i < 19) (hb : b ≤ n) : (wcd T b (gE (qL' T) n b) = lcs i) ↔ wq T b (gE (qL' T) n b) i := wcd_w (okS ⟨i, hi⟩) hb
/-- what the reference's reading makes of it -/
def mE {β : Type} (T : Int → Int) (n : Int) (K : List (Nat × Nat)) (L : List Nat) (I : Nat → Nat → Int) (A : Nat → Int → Int) (W : qWt) (r : qR) (P : β → (Nat → Nat → Int) → (Nat → Int → Int) → Prop) (x : zE (Int × β)) : Prop := match x with
  | .inl (k, p) => ∃ I' A', fi K I I' ∧ fr L A A' ∧ I' 59 6 = k ∧ I' 59 5 = p ∧ 0 ≤ p ∧ p ≤ 600 ∧ r = some (.inl none, zM I' A' W)
  | .inr (e, v) => ∃ I' A', fi K I I' ∧ fr L A A' ∧ mTx T n e I' A' ∧ I' 59 5 = -1 ∧ P v I' A' ∧ r = some (.inl none, zM I' A' W)
section MR0
variable {β : Type} {T : Int → Int} {n : Int} {K : List (Nat × Nat)} {L : List Nat} {I : Nat → Nat → Int} {A : Nat → Int → Int} {W : qWt} {r : qR} {P : β → (Nat → Nat → Int) → (Nat → Int → Int) → Prop}
theorem mE.bad {k p : Int} (I' : Nat → Nat → Int) (A' : Nat → Int → Int) (h1 : fi K I I') (h2 : fr L A A') (h3 : I' 59 6 = k) (h4 : I' 59 5 = p) (h5 : 0 ≤ p ∧ p ≤ 600) (h6 : r = some (.inl none, zM I' A' W)) : mE T n K L I A W r P (.inl (k, p)) := ⟨I', A', h1, h2, h3, h4, h5.1, h5.2, h6⟩
theorem mE.ok {e : Int} {v : β} (I' : Nat → Nat → Int) (A' : Nat → Int → Int) (h1 : fi K I I') (h2 : fr L A A') (h3 : mTx T n e I' A') (h4 : I' 59 5 = -1) (h5 : P v I' A') (h6 : r = some (.inl none, zM I' A' W)) : mE T n K L I A W r P (.inr (e, v)) := ⟨I', A', h1, h2, h3, h4, h5, h6⟩
end MR0
def mD (D : zD) (I : Nat → Nat → Int) (A : Nat → Int → Int) : Prop := I 59 16 = D.1 0 ∧ I 59 17 = D.1 1 ∧ I 59 18 = D.1 2 ∧ I 59 19 = D.1 3 ∧ I 59 20 = D.1 4 ∧ (∀ h : Int, 0 ≤ h → h < D.1 0 → A 62 h = D.2 13 h) ∧ (∀ w : Int, 0 ≤ w → w < D.1 1 → A 63 (3 * w) = D.2 14 w ∧ A 63 (3 * w + 1) = D.2 15 w ∧ A 63 (3 * w + 2) = D.2 16 w) ∧ (∀ c : Int, 0 ≤ c → c < D.1 2 → A 64 (2 * c) = D.2 17 c ∧ A 64 (2 * c + 1) = D.2 18 c)
abbrev qK5 : List (Nat × Nat) := [(59, 4), (59, 5), (59, 6), (59, 16), (59, 17), (59, 18), (59, 19), (59, 20)]
abbrev qL5 : List Nat := [62, 63, 64]
section MR
variable {d : Nat} {I I' : Nat → Nat → Int} {A : Nat → Int → Int} {W : qWt} {T : Int → Int} {n a : Int} {D : zD}
theorem mD.k (h : mD D I A) (f : fi yK I I') : mD D I' A := by
  obtain ⟨h0, h1, h2, h3, h4, h5⟩ := h
  exact ⟨(f 59 16 rfl).trans h0, (f 59 17 rfl).trans h1, (f 59 18 rfl).trans h2, (f 59 19 rfl).trans h3, (f 59 20 rfl).trans h4, h5⟩
theorem m_row0 (hd : 3 ≤ d) (h : mTx T n a I A) (hb5 : I 59 5 = -1) (hD : mD D I A) (hk : dOK D) (h5 : D.1 0 < 5) : mE T n qK5 qL5 I A W (q_call q_MT d 187 [.ref 59, .int (zI (lcs 0))] (zM I A W)) mD (rHo T n D a) := by
  obtain ⟨d, rfl⟩ : ∃ e, d = e + 1 := ⟨d - 1, by omega⟩
  have o0 : ∀ {h : qH} {kx : Nat → Nat → qH → qR} {k : Int32 → qH → qR}, q_rI (q_call q_MT d 174 [.float 0] h) kx k = k (zI (lcs 0)) h := fun {h kx k} => cI (m_ofs (by omega) (by decide))
  have b0 := lcs_b ⟨0, by decide⟩
  have han := h.2.2.2.2.2.1
  have ha0 := h.2.2.2.2.1
  have hn6 := h.2.2.2.2.2.2
  have j0 := hD.1
  have k0 := hk.1
  have e1 := m_readNumber (lo := 0) (hi := 999) (W := W) (d := d) (by omega) h hb5 (by omega) (by omega)
  unfold rHo
  rcases hq : numS T n 0 999 a with ⟨k, p⟩ | ⟨e, v⟩
  · rw [hq] at e1
    have r1 := numS_l han hq
    obtain ⟨I1, a1, x1, x2, x3, x4, x5⟩ := e1
    have j0' := (x1 59 16 rfl).trans j0
    refine mE.bad (u2 I1 59 16 (D.1 0 + 1)) (ua A 62 (up (A 62) (D.1 0) 0)) ((x1.wd rfl).f rfl) (fr.refl.a rfl) ((u2_f (by decide)).trans x3) ((u2_f (by decide)).trans x4) (by omega) ?_
    rw [cl_X11_readRow]
    simp (implicitDefEqProofs := false) (disch := omega) only [↓rI_s, ↓rV_s, ↓rI_e, ↓rV_e, zc_eq, zc_ne, zc_lt, zc_ge, zc_gt, zc_le, zlt_t, zlt_f, zle_t, zle_f, zeq_t, zeq_f, lz, zadd, zsub, zmul, zneg, zb_e0, zb_e1, boo0, boo1, ua_s, ua_n, ua_ua, up_s, u2_s, u2_f, u2_c, u2_u2, Int.natCast_add, Int.zero_add, Int.add_zero, ↓reduceIte, ne_eq, not_true_eq_false, not_false_eq_true, Int.natCast_one, ↓k_X11_readRow_0, ↓o0, ↓zg_59_10, ↓zg_59_16, j0, ↓mc_59, ↓cI x5, zs_62, j0', ↓zp_59_16, ↓k_X11_readRow_173]
  · rw [hq] at e1
    obtain ⟨I1, x1, x2, x3, x4⟩ := e1
    have j0' := (x1 59 16 rfl).trans j0
    obtain ⟨y0, y1, y2, y3, y4, y5, y6, y7⟩ := hD.k x1
    refine mE.ok (u2 I1 59 16 (D.1 0 + 1)) (ua A 62 (up (A 62) (D.1 0) v)) ((x1.wd rfl).f rfl) (fr.refl.a rfl) ((x2.fr (L := [62]) (fr.refl.a rfl) rfl).fi (K := [(59, 16)]) (fi.refl.f rfl) rfl) ((u2_f (by decide)).trans x3) ⟨?_, ?_, ?_, ?_, ?_, fun h q0 q1 => ?_, y6, y7⟩ ?_
    · rw [u2_s]; exact (uj_s (J := D.1) (f := 0) (v := D.1 0 + 1)).symm
    · rw [u2_f (by decide)]; exact y1
    · rw [u2_f (by decide)]; exact y2
    · rw [u2_f (by decide)]; exact y3
    · rw [u2_f (by decide)]; exact y4
    · have q1 : h < D.1 0 + 1 := q1
      show up (A 62) (D.1 0) v h = up (D.2 13) (D.1 0) v h
      by_cases c : h = D.1 0
      · rw [c, up_s, up_s]
      · rw [up_n c, up_n c]; exact y5 h q0 (by omega)
    · rw [cl_X11_readRow]
      simp (implicitDefEqProofs := false) (disch := omega) only [↓rI_s, ↓rV_s, ↓rI_e, ↓rV_e, zc_eq, zc_ne, zc_lt, zc_ge, zc_gt, zc_le, zlt_t, zlt_f, zle_t, zle_f, zeq_t, zeq_f, lz, zadd, zsub, zmul, zneg, zb_e0, zb_e1, boo0, boo1, ua_s, ua_n, ua_ua, up_s, u2_s, u2_f, u2_c, u2_u2, Int.natCast_add, Int.zero_add, Int.add_zero, ↓reduceIte, ne_eq, not_true_eq_false, not_false_eq_true, Int.natCast_one, ↓k_X11_readRow_0, ↓o0, ↓zg_59_10, ↓zg_59_16, j0, ↓mc_59, ↓cI x4, zs_62, j0', ↓zp_59_16, ↓k_X11_readRow_173]
theorem m_row3 (hd : 3 ≤ d) (h : mTx T n a I A) (hb5 : I 59 5 = -1) (hD : mD D I A) : mE T n qK5 qL5 I A W (q_call q_MT d 187 [.ref 59, .int (zI (lcs 3))] (zM I A W)) mD (rFe T n D a) := by
  obtain ⟨d, rfl⟩ : ∃ e, d = e + 1 := ⟨d - 1, by omega⟩
  have o0 : ∀ {h : qH} {kx : Nat → Nat → qH → qR} {k : Int32 → qH → qR}, q_rI (q_call q_MT d 174 [.float 0] h) kx k = k (zI (lcs 0)) h := fun {h kx k} => cI (m_ofs (by omega) (by decide))
  have o3 : ∀ {h : qH} {kx : Nat → Nat → qH → qR} {k : Int32 → qH → qR}, q_rI (q_call q_MT d 174 [.float 3] h) kx k = k (zI (lcs 3)) h := fun {h kx k} => cI (m_ofs (by omega) (by decide))
  have o4 : ∀ {h : qH} {kx : Nat → Nat → qH → qR} {k : Int32 → qH → qR}, q_rI (q_call q_MT d 174 [.float 4] h) kx k = k (zI (lcs 4)) h := fun {h kx k} => cI (m_ofs (by omega) (by decide))
  have n0 : (zI (lcs 3) = zI (lcs 0)) = False := eq_false (by decide)
  have n3 : (zI (lcs 4) = zI (lcs 3)) = False := eq_false (by decide)
  have han := h.2.2.2.2.2.1
  have ha0 := h.2.2.2.2.1
  have hn6 := h.2.2.2.2.2.2
  have e1 := m_readNumber (lo := 4) (hi := 30) (W := W) (d := d) (by omega) h hb5 (by omega) (by omega)
  unfold rFe
  rcases hq : numS T n 4 30 a with ⟨k, p⟩ | ⟨e, v⟩
  · rw [hq] at e1
    have r1 := numS_l han hq
    obtain ⟨I1, a1, x1, x2, x3, x4, x5⟩ := e1
    refine mE.bad (u2 I1 59 19 0) A ((x1.wd rfl).f rfl) fr.refl ((u2_f (by decide)).trans x3) ((u2_f (by decide)).trans x4) (by omega) ?_
    rw [cl_X11_readRow]
    simp (implicitDefEqProofs := false) (disch := omega) only [↓rI_s, ↓rV_s, ↓rI_e, ↓rV_e, zc_eq, zc_ne, zc_lt, zc_ge, zc_gt, zc_le, zlt_t, zlt_f, zle_t, zle_f, zeq_t, zeq_f, lz, zadd, zsub, zmul, zneg, zb_e0, zb_e1, boo0, boo1, ua_s, ua_n, ua_ua, up_s, u2_s, u2_f, u2_c, u2_u2, Int.natCast_add, Int.zero_add, Int.add_zero, ↓reduceIte, ne_eq, not_true_eq_false, not_false_eq_true, Int.natCast_one, ↓k_X11_readRow_0, ↓o0, n0, ↓o3, n3, ↓o4, ↓mc_59, ↓cI x5, ↓zp_59_19, ↓k_X11_readRow_173]
  · rw [hq] at e1
    obtain ⟨I1, x1, x2, x3, x4⟩ := e1
    obtain ⟨y0, y1, y2, y3, y4, y5, y6, y7⟩ := hD.k x1
    refine mE.ok (u2 I1 59 19 v) A ((x1.wd rfl).f rfl) fr.refl (x2.fi (K := [(59, 19)]) (fi.refl.f rfl) rfl) ((u2_f (by decide)).trans x3) ⟨y0, y1, y2, ?_, ?_, y5, y6, y7⟩ ?_
    · first | exact y3 | exact u2_s.trans (uj_s (J := D.1) (f := 3) (v := v)).symm
    · first | exact y4 | exact u2_s.trans (uj_s (J := D.1) (f := 3) (v := v)).symm
    · rw [cl_X11_readRow]
      simp (implicitDefEqProofs := false) (disch := omega) only [↓rI_s, ↓rV_s, ↓rI_e, ↓rV_e, zc_eq, zc_ne, zc_lt, zc_ge, zc_gt, zc_le, zlt_t, zlt_f, zle_t, zle_f, zeq_t, zeq_f, lz, zadd, zsub, zmul, zneg, zb_e0, zb_e1, boo0, boo1, ua_s, ua_n, ua_ua, up_s, u2_s, u2_f, u2_c, u2_u2, Int.natCast_add, Int.zero_add, Int.add_zero, ↓reduceIte, ne_eq, not_true_eq_false, not_false_eq_true, Int.natCast_one, ↓k_X11_readRow_0, ↓o0, n0, ↓o3, n3, ↓o4, ↓mc_59, ↓cI x4, ↓zp_59_19, ↓k_X11_readRow_173]
theorem m_row4 (hd : 3 ≤ d) (h : mTx T n a I A) (hb5 : I 59 5 = -1) (hD : mD D I A) : mE T n qK5 qL5 I A W (q_call q_MT d 187 [.ref 59, .int (zI (lcs 4))] (zM I A W)) mD (rNa T n D a) := by
  obtain ⟨d, rfl⟩ : ∃ e, d = e + 1 := ⟨d - 1, by omega⟩
  have o0 : ∀ {h : qH} {kx : Nat → Nat → qH → qR} {k : Int32 → qH → qR}, q_rI (q_call q_MT d 174 [.float 0] h) kx k = k (zI (lcs 0)) h := fun {h kx k} => cI (m_ofs (by omega) (by decide))
  have o3 : ∀ {h : qH} {kx : Nat → Nat → qH → qR} {k : Int32 → qH → qR}, q_rI (q_call q_MT d 174 [.float 3] h) kx k = k (zI (lcs 3)) h := fun {h kx k} => cI (m_ofs (by omega) (by decide))
  have o4 : ∀ {h : qH} {kx : Nat → Nat → qH → qR} {k : Int32 → qH → qR}, q_rI (q_call q_MT d 174 [.float 4] h) kx k = k (zI (lcs 4)) h := fun {h kx k} => cI (m_ofs (by omega) (by decide))
  have n0 : (zI (lcs 4) = zI (lcs 0)) = False := eq_false (by decide)
  have n3 : (zI (lcs 4) = zI (lcs 3)) = False := eq_false (by decide)
  have han := h.2.2.2.2.2.1
  have ha0 := h.2.2.2.2.1
  have hn6 := h.2.2.2.2.2.2
  have e1 := m_readNumber (lo := 0) (hi := 9) (W := W) (d := d) (by omega) h hb5 (by omega) (by omega)
  unfold rNa
  rcases hq : numS T n 0 9 a with ⟨k, p⟩ | ⟨e, v⟩
  · rw [hq] at e1
    have r1 := numS_l han hq
    obtain ⟨I1, a1, x1, x2, x3, x4, x5⟩ := e1
    refine mE.bad (u2 I1 59 20 0) A ((x1.wd rfl).f rfl) fr.refl ((u2_f (by decide)).trans x3) ((u2_f (by decide)).trans x4) (by omega) ?_
    rw [cl_X11_readRow]
    simp (implicitDefEqProofs := false) (disch := omega) only [↓rI_s, ↓rV_s, ↓rI_e, ↓rV_e, zc_eq, zc_ne, zc_lt, zc_ge, zc_gt, zc_le, zlt_t, zlt_f, zle_t, zle_f, zeq_t, zeq_f, lz, zadd, zsub, zmul, zneg, zb_e0, zb_e1, boo0, boo1, ua_s, ua_n, ua_ua, up_s, u2_s, u2_f, u2_c, u2_u2, Int.natCast_add, Int.zero_add, Int.add_zero, ↓reduceIte, ne_eq, not_true_eq_false, not_false_eq_true, Int.natCast_one, ↓k_X11_readRow_0, ↓o0, n0, ↓o3, n3, ↓o4, ↓mc_59, ↓cI x5, ↓zp_59_20, ↓k_X11_readRow_173]
  · rw [hq] at e1
    obtain ⟨I1, x1, x2, x3, x4⟩ := e1
    obtain ⟨y0, y1, y2, y3, y4, y5, y6, y7⟩ := hD.k x1
    refine mE.ok (u2 I1 59 20 v) A ((x1.wd rfl).f rfl) fr.refl (x2.fi (K := [(59, 20)]) (fi.refl.f rfl) rfl) ((u2_f (by decide)).trans x3) ⟨y0, y1, y2, ?_, ?_, y5, y6, y7⟩ ?_
    · first | exact y3 | exact u2_s.trans (uj_s (J := D.1) (f := 4) (v := v)).symm
    · first | exact y4 | exact u2_s.trans (uj_s (J := D.1) (f := 4) (v := v)).symm
    · rw [cl_X11_readRow]
      simp (implicitDefEqProofs := false) (disch := omega) only [↓rI_s, ↓rV_s, ↓rI_e, ↓rV_e, zc_eq, zc_ne, zc_lt, zc_ge, zc_gt, zc_le, zlt_t, zlt_f, zle_t, zle_f, zeq_t, zeq_f, lz, zadd, zsub, zmul, zneg, zb_e0, zb_e1, boo0, boo1, ua_s, ua_n, ua_ua, up_s, u2_s, u2_f, u2_c, u2_u2, Int.natCast_add, Int.zero_add, Int.add_zero, ↓reduceIte, ne_eq, not_true_eq_false, not_false_eq_true, Int.natCast_one, ↓k_X11_readRow_0, ↓o0, n0, ↓o3, n3, ↓o4, ↓mc_59, ↓cI x4, ↓zp_59_20, ↓k_X11_readRow_173]
theorem m_row1 (hd : 3 ≤ d) (h : mTx T n a I A) (hb5 : I 59 5 = -1) (hD : mD D I A) (hk : dOK D) (h5 : D.1 1 < 10) : mE T n qK5 qL5 I A W (q_call q_MT d 187 [.ref 59, .int (zI (lcs 1))] (zM I A W)) mD (rWi T n D a) := by
  obtain ⟨d, rfl⟩ : ∃ e, d = e + 1 := ⟨d - 1, by omega⟩
  have o0 : ∀ {h : qH} {kx : Nat → Nat → qH → qR} {k : Int32 → qH → qR}, q_rI (q_call q_MT d 174 [.float 0] h) kx k = k (zI (lcs 0)) h := fun {h kx k} => cI (m_ofs (by omega) (by decide))
  have o1 : ∀ {h : qH} {kx : Nat → Nat → qH → qR} {k : Int32 → qH → qR}, q_rI (q_call q_MT d 174 [.float 1] h) kx k = k (zI (lcs 1)) h := fun {h kx k} => cI (m_ofs (by omega) (by decide))
  have o3 : ∀ {h : qH} {kx : Nat → Nat → qH → qR} {k : Int32 → qH → qR}, q_rI (q_call q_MT d 174 [.float 3] h) kx k = k (zI (lcs 3)) h := fun {h kx k} => cI (m_ofs (by omega) (by decide))
  have o4 : ∀ {h : qH} {kx : Nat → Nat → qH → qR} {k : Int32 → qH → qR}, q_rI (q_call q_MT d 174 [.float 4] h) kx k = k (zI (lcs 4)) h := fun {h kx k} => cI (m_ofs (by omega) (by decide))
  have n0 : (zI (lcs 1) = zI (lcs 0)) = False := eq_false (by decide)
  have n3 : (zI (lcs 1) = zI (lcs 3)) = False := eq_false (by decide)
  have n4 : (zI (lcs 1) = zI (lcs 4)) = False := eq_false (by decide)
  have han := h.2.2.2.2.2.1
  have ha0 := h.2.2.2.2.1
  have hn6 := h.2.2.2.2.2.2
  have j0 := hD.1
  have j1 := hD.2.1
  have k0 := hk.1
  have k1 := hk.2.1
  have e1 := m_readNumber (lo := 0) (hi := D.1 0 - 1) (W := W) (d := d) (by omega) h hb5 (by omega) (by omega)
  unfold rWi
  rcases hq : numS T n 0 (D.1 0 - 1) a with ⟨k, p⟩ | ⟨e, v⟩
  · rw [hq] at e1
    have r1 := numS_l han hq
    obtain ⟨I1, a1, x1, x2, x3, x4, x5⟩ := e1
    have w5 : wI (I1 59 5) := by rw [x4]; omega
    have n5 : I1 59 5 ≠ -1 := by rw [x4]; omega
    have j1a := (x1 59 17 rfl).trans j1
    have nb := fun (lo hi : Int) (B : Nat → Int → Int) => m_readNumber_b (I := I1) (A := B) (W := W) (d := d) (lo := lo) (hi := hi) (by omega) n5 w5
    have nb1 := nb 1 9 (ua A 63 (up (A 63) (3 * D.1 1) 0))
    have nb2 := nb 0 29 (ua A 63 (up (up (A 63) (3 * D.1 1) 0) (3 * D.1 1 + 1) 0))
    refine mE.bad (u2 I1 59 17 (D.1 1 + 1)) (ua A 63 (up (up (up (A 63) (3 * D.1 1) 0) (3 * D.1 1 + 1) 0) (3 * D.1 1 + 2) 0)) ((x1.wd rfl).f rfl) (fr.refl.a rfl) ((u2_f (by decide)).trans x3) ((u2_f (by decide)).trans x4) (by omega) ?_
    rw [cl_X11_readRow]
    simp (implicitDefEqProofs := false) (disch := omega) only [↓rI_s, ↓rV_s, ↓rI_e, ↓rV_e, zc_eq, zc_ne, zc_lt, zc_ge, zc_gt, zc_le, zlt_t, zlt_f, zle_t, zle_f, zeq_t, zeq_f, lz, zadd, zsub, zmul, zneg, zb_e0, zb_e1, boo0, boo1, ua_s, ua_n, ua_ua, up_s, u2_s, u2_f, u2_c, u2_u2, Int.natCast_add, Int.zero_add, Int.add_zero, ↓reduceIte, ne_eq, not_true_eq_false, not_false_eq_true, Int.natCast_one, ↓k_X11_readRow_0, ↓o0, n0, ↓o3, n3, ↓o4, n4, ↓o1, ↓k_X11_readRow_94, ↓zg_59_11, ↓zg_59_17, j1, ↓zg_59_16, j0, ↓mc_59, ↓cI x5, zs_63, j1a, nb1, nb2, ↓zp_59_17, ↓k_X11_readRow_166, ↓k_X11_readRow_173]
  · rw [hq] at e1
    have r1 := numS_r han hq
    obtain ⟨I1, x1, x2, x3, x4⟩ := e1
    have j1a := (x1 59 17 rfl).trans j1
    have fA1 : fr [63] A (ua A 63 (up (A 63) (3 * D.1 1) v)) := fr.refl.a rfl
    have e2 := m_readNumber (lo := 1) (hi := 9) (W := W) (d := d) (by omega) (x2.fr fA1 rfl) x3 (by omega) (by omega)
    show mE _ _ _ _ _ _ _ _ _ (bd (numS T n 1 9 e) fun y => bd (numS T n 0 29 y.1) fun z => .inr (z.1, uj D.1 1 (D.1 1 + 1), ua (ua (ua D.2 14 (up (D.2 14) (D.1 1) v)) 15 (up (D.2 15) (D.1 1) y.2)) 16 (up (D.2 16) (D.1 1) z.2)))
    rcases hq2 : numS T n 1 9 e with ⟨k, p⟩ | ⟨e', u⟩
    · rw [hq2] at e2
      have r2 := numS_l (by omega) hq2
      obtain ⟨I2, a2, y1, y2, y3, y4, y5⟩ := e2
      have w5 : wI (I2 59 5) := by rw [y4]; omega
      have n5 : I2 59 5 ≠ -1 := by rw [y4]; omega
      have j1b := (y1 59 17 rfl).trans j1a
      have nb2 := m_readNumber_b (I := I2) (A := ua A 63 (up (up (A 63) (3 * D.1 1) v) (3 * D.1 1 + 1) 0)) (W := W) (d := d) (lo := 0) (hi := 29) (by omega) n5 w5
      refine mE.bad (u2 I2 59 17 (D.1 1 + 1)) (ua A 63 (up (up (up (A 63) (3 * D.1 1) v) (3 * D.1 1 + 1) 0) (3 * D.1 1 + 2) 0)) (((x1.tr y1).wd rfl).f rfl) (fr.refl.a rfl) ((u2_f (by decide)).trans y3) ((u2_f (by decide)).trans y4) (by omega) ?_
      rw [cl_X11_readRow]
      simp (implicitDefEqProofs := false) (disch := omega) only [↓rI_s, ↓rV_s, ↓rI_e, ↓rV_e, zc_eq, zc_ne, zc_lt, zc_ge, zc_gt, zc_le, zlt_t, zlt_f, zle_t, zle_f, zeq_t, zeq_f, lz, zadd, zsub, zmul, zneg, zb_e0, zb_e1, boo0, boo1, ua_s, ua_n, ua_ua, up_s, u2_s, u2_f, u2_c, u2_u2, Int.natCast_add, Int.zero_add, Int.add_zero, ↓reduceIte, ne_eq, not_true_eq_false, not_false_eq_true, Int.natCast_one, ↓k_X11_readRow_0, ↓o0, n0, ↓o3, n3, ↓o4, n4, ↓o1, ↓k_X11_readRow_94, ↓zg_59_11, ↓zg_59_17, j1, ↓zg_59_16, j0, ↓mc_59, ↓cI x4, zs_63, j1a, y5, j1b, nb2, ↓zp_59_17, ↓k_X11_readRow_166, ↓k_X11_readRow_173]
    · rw [hq2] at e2
      have r2 := numS_r (by omega) hq2
      obtain ⟨I2, y1, y2, y3, y4⟩ := e2
      have j1b := (y1 59 17 rfl).trans j1a
      have fA2 : fr [63] (ua A 63 (up (A 63) (3 * D.1 1) v)) (ua A 63 (up (up (A 63) (3 * D.1 1) v) (3 * D.1 1 + 1) u)) := by
        rw [← ua_ua (A := A) (c := 63) (g := up (A 63) (3 * D.1 1) v) (g' := up (up (A 63) (3 * D.1 1) v) (3 * D.1 1 + 1) u)]
        exact fr.refl.a rfl
      have e3 := m_readNumber (lo := 0) (hi := 29) (W := W) (d := d) (by omega) (y2.fr fA2 rfl) y3 (by omega) (by omega)
      show mE _ _ _ _ _ _ _ _ _ (bd (numS T n 0 29 e') fun z => .inr (z.1, uj D.1 1 (D.1 1 + 1), ua (ua (ua D.2 14 (up (D.2 14) (D.1 1) v)) 15 (up (D.2 15) (D.1 1) u)) 16 (up (D.2 16) (D.1 1) z.2)))
      rcases hq3 : numS T n 0 29 e' with ⟨k, p⟩ | ⟨e'', t⟩
      · rw [hq3] at e3
        have r3 := numS_l (by omega) hq3
        obtain ⟨I3, a3, z1, z2, z3, z4, z5⟩ := e3
        have j1c := (z1 59 17 rfl).trans j1b
        refine mE.bad (u2 I3 59 17 (D.1 1 + 1)) (ua A 63 (up (up (up (A 63) (3 * D.1 1) v) (3 * D.1 1 + 1) u) (3 * D.1 1 + 2) 0)) ((((x1.tr y1).tr z1).wd rfl).f rfl) (fr.refl.a rfl) ((u2_f (by decide)).trans z3) ((u2_f (by decide)).trans z4) (by omega) ?_
        rw [cl_X11_readRow]
        simp (implicitDefEqProofs := false) (disch := omega) only [↓rI_s, ↓rV_s, ↓rI_e, ↓rV_e, zc_eq, zc_ne, zc_lt, zc_ge, zc_gt, zc_le, zlt_t, zlt_f, zle_t, zle_f, zeq_t, zeq_f, lz, zadd, zsub, zmul, zneg, zb_e0, zb_e1, boo0, boo1, ua_s, ua_n, ua_ua, up_s, u2_s, u2_f, u2_c, u2_u2, Int.natCast_add, Int.zero_add, Int.add_zero, ↓reduceIte, ne_eq, not_true_eq_false, not_false_eq_true, Int.natCast_one, ↓k_X11_readRow_0, ↓o0, n0, ↓o3, n3, ↓o4, n4, ↓o1, ↓k_X11_readRow_94, ↓zg_59_11, ↓zg_59_17, j1, ↓zg_59_16, j0, ↓mc_59, ↓cI x4, zs_63, j1a, y4, j1b, z5, j1c, ↓zp_59_17, ↓k_X11_readRow_166, ↓k_X11_readRow_173]
      · rw [hq3] at e3
        obtain ⟨I3, z1, z2, z3, z4⟩ := e3
        have j1c := (z1 59 17 rfl).trans j1b
        have fA3 : fr [63] (ua A 63 (up (up (A 63) (3 * D.1 1) v) (3 * D.1 1 + 1) u)) (ua A 63 (up (up (up (A 63) (3 * D.1 1) v) (3 * D.1 1 + 1) u) (3 * D.1 1 + 2) t)) := by
          rw [← ua_ua (A := A) (c := 63) (g := up (up (A 63) (3 * D.1 1) v) (3 * D.1 1 + 1) u) (g' := up (up (up (A 63) (3 * D.1 1) v) (3 * D.1 1 + 1) u) (3 * D.1 1 + 2) t)]
          exact fr.refl.a rfl
        obtain ⟨q0, q1, q2, q3, q4, q5, q6, q7⟩ := ((hD.k x1).k y1).k z1
        refine mE.ok (u2 I3 59 17 (D.1 1 + 1)) (ua A 63 (up (up (up (A 63) (3 * D.1 1) v) (3 * D.1 1 + 1) u) (3 * D.1 1 + 2) t)) ((((x1.tr y1).tr z1).wd rfl).f rfl) (fr.refl.a rfl) ((z2.fr fA3 rfl).fi (K := [(59, 17)]) (fi.refl.f rfl) rfl) ((u2_f (by decide)).trans z3) ⟨q0, u2_s.trans (uj_s (J := D.1) (f := 1) (v := D.1 1 + 1)).symm, q2, q3, q4, q5, fun w w0 w1 => ?_, q7⟩ ?_
        · have w1 : w < D.1 1 + 1 := w1
          show up (up (up (A 63) (3 * D.1 1) v) (3 * D.1 1 + 1) u) (3 * D.1 1 + 2) t (3 * w) = up (D.2 14) (D.1 1) v w ∧ up (up (up (A 63) (3 * D.1 1) v) (3 * D.1 1 + 1) u) (3 * D.1 1 + 2) t (3 * w + 1) = up (D.2 15) (D.1 1) u w ∧ up (up (up (A 63) (3 * D.1 1) v) (3 * D.1 1 + 1) u) (3 * D.1 1 + 2) t (3 * w + 2) = up (D.2 16) (D.1 1) t w
          by_cases c : w = D.1 1
          · subst c
            rw [up_n (j' := 3 * D.1 1) (by omega), up_n (j' := 3 * D.1 1) (by omega), up_n (j' := 3 * D.1 1 + 1) (by omega)]
            rw [up_s, up_s, up_s, up_s, up_s, up_s]
            exact ⟨rfl, rfl, rfl⟩
          · rw [up_n (j' := 3 * w) (by omega), up_n (j' := 3 * w) (by omega), up_n (j' := 3 * w) (by omega), up_n (j' := 3 * w + 1) (by omega), up_n (j' := 3 * w + 1) (by omega), up_n (j' := 3 * w + 1) (by omega), up_n (j' := 3 * w + 2) (by omega), up_n (j' := 3 * w + 2) (by omega), up_n (j' := 3 * w + 2) (by omega), up_n c, up_n c, up_n c]
            exact q6 w w0 (by omega)
        · rw [cl_X11_readRow]
          simp (implicitDefEqProofs := false) (disch := omega) only [↓rI_s, ↓rV_s, ↓rI_e, ↓rV_e, zc_eq, zc_ne, zc_lt, zc_ge, zc_gt, zc_le, zlt_t, zlt_f, zle_t, zle_f, zeq_t, zeq_f, lz, zadd, zsub, zmul, zneg, zb_e0, zb_e1, boo0, boo1, ua_s, ua_n, ua_ua, up_s, u2_s, u2_f, u2_c, u2_u2, Int.natCast_add, Int.zero_add, Int.add_zero, ↓reduceIte, ne_eq, not_true_eq_false, not_false_eq_true, Int.natCast_one, ↓k_X11_readRow_0, ↓o0, n0, ↓o3, n3, ↓o4, n4, ↓o1, ↓k_X11_readRow_94, ↓zg_59_11, ↓zg_59_17, j1, ↓zg_59_16, j0, ↓mc_59, ↓cI x4, zs_63, j1a, y4, j1b, z4, j1c, ↓zp_59_17, ↓k_X11_readRow_166, ↓k_X11_readRow_173]
end MR
