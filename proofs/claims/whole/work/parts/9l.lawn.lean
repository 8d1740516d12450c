--DEPS 9k.lawm
section LN
variable {d : Nat} {I I' : Nat → Nat → Int} {A : Nat → Int → Int} {W : qWt} {T : Int → Int} {n a : Int} {c : zC}
/-- a reader of the reference's does what it should, in calls that are deep enough -/
def mRd (W : qWt) (T : Int → Int) (n : Int) (mi : Nat) (o : Int) (dm : Nat) (U : zP) : Prop := ∀ (d : Nat) (a : Int) (c : zC) (I : Nat → Nat → Int) (A : Nat → Int → Int), dm ≤ d → mTx T n a I A → I 59 5 = -1 → I 59 7 = o → mCd c I A → (c.1 : Int) ≤ a → mE T n lKm [68, 69] I A W (q_call q_MT d mi [.ref 59] (zM I A W)) (fun c' I' A' => mCd c' I' A' ∧ I' 59 7 = o) (U a c)
abbrev aK : List (Nat × Nat) := [(59, 4), (59, 5), (59, 6), (59, 7)]
theorem m_two {S : zP} {M o v y : Int} {dm : Nat} (hn : n ≤ 150) (ho : 0 ≤ o ∧ o < 6) (hS : lOK n M S) (hin : mRd W T n 192 (o + 1) dm S) (hv : v = 2004 ∨ v = 2005) (hd : dm + 6 ≤ d) (h : mTx T n a I A) (hb5 : I 59 5 = -1) (h7 : I 59 7 = o) (hC : mCd c I A) (hca : (c.1 : Int) ≤ a) (y0 : 0 ≤ y) (y1 : a + y ≤ n) : mE T n lKm [68, 69] I A W (q_call q_MT d 194 [.ref 59, .int (zI y), .int (zI (v - 1998))] (zM I A W)) (fun c' I' A' => mCd c' I' A' ∧ I' 59 7 = o) (lPa T n S v (a + y) c) := by
  obtain ⟨d, rfl⟩ : ∃ e, d = e + 1 := ⟨d - 1, by omega⟩
  have ha0 := h.2.2.2.2.1
  have hn6 := h.2.2.2.2.2.2
  have sg : ∀ (J : Nat → Nat → Int) (B : Nat → Int → Int) (c : Int), J 59 5 ≠ -1 → wI (J 59 5) → q_call q_MT d 177 [.ref 59, .int (zI c)] (zM J B W) = some (.inl none, zM J B W) := fun J B c h w => m_sign_b (by omega) h w
  have sm : ∀ (J : Nat → Nat → Int) (B : Nat → Int → Int), J 59 5 ≠ -1 → wI (J 59 5) → q_call q_MT d 192 [.ref 59] (zM J B W) = some (.inl none, zM J B W) := fun J B h w => m_readSum_b (by omega) h w
  have em : ∀ (J : Nat → Nat → Int) (B : Nat → Int → Int), J 59 5 ≠ -1 → wI (J 59 5) → q_call q_MT d 190 [.ref 59, .int (zI (v - 1998)), .int (zI 0)] (zM (u2 J 59 7 (J 59 7 - 1)) B W) = some (.inl none, zM (u2 J 59 7 (J 59 7 - 1)) B W) := fun J B h w => m_emit_b (by omega) (by rw [u2_f (by decide)]; exact h) (by rw [u2_f (by decide)]; exact w)
  have eo := m_opens (A := A) (W := W) (d := d) (y := y) (by omega) hb5 h.2.2.2.1 h7 ho
  have f0 : fi aK I (u2 (u2 I 59 4 (a + y)) 59 7 (o + 1)) := (fi.refl.f rfl).f rfl
  have h0 : mTx T n (a + y) (u2 (u2 I 59 4 (a + y)) 59 7 (o + 1)) A := h.u (by rw [u2_f (by decide), u2_f (by decide)]) (by rw [u2_f (by decide), u2_s]) (by omega) (by omega)
  have b0 : u2 (u2 I 59 4 (a + y)) 59 7 (o + 1) 59 5 = -1 := by rw [u2_f (by decide), u2_f (by decide)]; exact hb5
  have g0 : u2 (u2 I 59 4 (a + y)) 59 7 (o + 1) 59 7 = o + 1 := u2_s
  generalize u2 (u2 I 59 4 (a + y)) 59 7 (o + 1) = I0 at eo f0 h0 b0 g0
  have fc : fi lKm I I0 := f0.wd rfl
  have hC0 := hC.k f0
  have e1 := m_sign (c := 91) (W := W) (d := d) (by omega) h0 (by omega) b0
  unfold lPa
  rcases q1 : sgnS T n 91 (a + y) with ⟨k, p⟩ | a1
  · rw [q1] at e1
    have r1 := sgnS_l y1 q1
    obtain ⟨I1, x1, x2, x3, x4, x5⟩ := e1
    have w5 : wI (I1 59 5) := by rw [x4]; omega
    have n5 : I1 59 5 ≠ -1 := by rw [x4]; omega
    have sB := sm I1 A n5 w5
    have s44 := sg I1 A 44 n5 w5
    have s93 := sg I1 A 93 n5 w5
    have eB := em I1 A n5 w5
    refine mE.bad (u2 I1 59 7 (I1 59 7 - 1)) A ((fc.tr (x1.wd rfl)).f rfl) fr.refl ((u2_f (by decide)).trans x3) ((u2_f (by decide)).trans x4) (by omega) ?_
    rw [cl_X11_readTwo]
    simp (implicitDefEqProofs := false) (disch := omega) only [↓rI_s, ↓rV_s, ↓rI_e, ↓rV_e, zc_eq, zc_ne, zc_lt, zc_ge, zc_gt, zc_le, zlt_t, zlt_f, zle_t, zle_f, zeq_t, zeq_f, lz, zadd, zsub, zmul, zneg, zb_e0, zb_e1, boo0, boo1, ua_s, ua_n, ua_ua, up_s, u2_s, u2_f, u2_c, u2_u2, Int.natCast_add, Int.zero_add, Int.add_zero, ↓reduceIte, ne_eq, not_true_eq_false, not_false_eq_true, Int.natCast_one, ↓k_X11_readTwo_0, ↓mc_59, ↓cV eo, ↓cV x5, ↓cV sB, ↓cV s44, ↓cV s93, ↓zg_59_7, ↓zp_59_7, ↓cV eB]
  rw [q1] at e1
  have r1 := sgnS_r y1 q1
  obtain ⟨I1, x1, x2, x3, x4⟩ := e1
  have e2 := hin d a1 c I1 A (by omega) x2 x3 ((x1 59 7 rfl).trans g0) (hC0.k (x1.wd rfl)) (by omega)
  show mE _ _ _ _ _ _ _ _ _ (bd (S a1 c) fun x => bd (sgnS T n 44 x.1) fun e2 => bd (S e2 x.2) fun y => bd (sgnS T n 93 y.1) fun e3 => .inr (e3, lEm v y.2))
  rcases q2 : S a1 c with ⟨k, p⟩ | ⟨a2, c2⟩
  · rw [q2] at e2
    obtain ⟨I2, A2, y1, y2, y3, y4, y5, y6, y7⟩ := e2
    have w5 : wI (I2 59 5) := by rw [y4]; omega
    have n5 : I2 59 5 ≠ -1 := by rw [y4]; omega
    have sB := sm I2 A2 n5 w5
    have s44 := sg I2 A2 44 n5 w5
    have s93 := sg I2 A2 93 n5 w5
    have eB := em I2 A2 n5 w5
    refine mE.bad (u2 I2 59 7 (I2 59 7 - 1)) A2 (((fc.tr (x1.wd rfl)).tr y1).f rfl) y2 ((u2_f (by decide)).trans y3) ((u2_f (by decide)).trans y4) ⟨y5, y6⟩ ?_
    rw [cl_X11_readTwo]
    simp (implicitDefEqProofs := false) (disch := omega) only [↓rI_s, ↓rV_s, ↓rI_e, ↓rV_e, zc_eq, zc_ne, zc_lt, zc_ge, zc_gt, zc_le, zlt_t, zlt_f, zle_t, zle_f, zeq_t, zeq_f, lz, zadd, zsub, zmul, zneg, zb_e0, zb_e1, boo0, boo1, ua_s, ua_n, ua_ua, up_s, u2_s, u2_f, u2_c, u2_u2, Int.natCast_add, Int.zero_add, Int.add_zero, ↓reduceIte, ne_eq, not_true_eq_false, not_false_eq_true, Int.natCast_one, ↓k_X11_readTwo_0, ↓mc_59, ↓cV eo, ↓cV x4, ↓cV y7, ↓cV s44, ↓cV sB, ↓cV s93, ↓zg_59_7, ↓zp_59_7, ↓cV eB]
  rw [q2] at e2
  have r2 := hS.2 _ _ _ _ (by omega) (by omega) q2
  obtain ⟨I2, A2, y1, y2, y3, y4, ⟨y5, y6⟩, y7⟩ := e2
  have e3 := m_sign (c := 44) (W := W) (d := d) (by omega) y3 (by omega) y4
  show mE _ _ _ _ _ _ _ _ _ (bd (sgnS T n 44 a2) fun e2 => bd (S e2 c2) fun y => bd (sgnS T n 93 y.1) fun e3 => .inr (e3, lEm v y.2))
  have fd : fi lKm I I2 := (fc.tr (x1.wd rfl)).tr y1
  rcases q3 : sgnS T n 44 a2 with ⟨k, p⟩ | a3
  · rw [q3] at e3
    have r3 := sgnS_l r2.2.1 q3
    obtain ⟨I3, z1, z2, z3, z4, z5⟩ := e3
    have w5 : wI (I3 59 5) := by rw [z4]; omega
    have n5 : I3 59 5 ≠ -1 := by rw [z4]; omega
    have sB := sm I3 A2 n5 w5
    have s93 := sg I3 A2 93 n5 w5
    have eB := em I3 A2 n5 w5
    refine mE.bad (u2 I3 59 7 (I3 59 7 - 1)) A2 ((fd.tr (z1.wd rfl)).f rfl) y2 ((u2_f (by decide)).trans z3) ((u2_f (by decide)).trans z4) (by omega) ?_
    rw [cl_X11_readTwo]
    simp (implicitDefEqProofs := false) (disch := omega) only [↓rI_s, ↓rV_s, ↓rI_e, ↓rV_e, zc_eq, zc_ne, zc_lt, zc_ge, zc_gt, zc_le, zlt_t, zlt_f, zle_t, zle_f, zeq_t, zeq_f, lz, zadd, zsub, zmul, zneg, zb_e0, zb_e1, boo0, boo1, ua_s, ua_n, ua_ua, up_s, u2_s, u2_f, u2_c, u2_u2, Int.natCast_add, Int.zero_add, Int.add_zero, ↓reduceIte, ne_eq, not_true_eq_false, not_false_eq_true, Int.natCast_one, ↓k_X11_readTwo_0, ↓mc_59, ↓cV eo, ↓cV x4, ↓cV y7, ↓cV z5, ↓cV sB, ↓cV s93, ↓zg_59_7, ↓zp_59_7, ↓cV eB]
  rw [q3] at e3
  have r3 := sgnS_r r2.2.1 q3
  obtain ⟨I3, z1, z2, z3, z4⟩ := e3
  have e4 := hin d a3 c2 I3 A2 (by omega) z2 z3 ((z1 59 7 rfl).trans y6) (y5.k (z1.wd rfl)) (by omega)
  show mE _ _ _ _ _ _ _ _ _ (bd (S a3 c2) fun y => bd (sgnS T n 93 y.1) fun e3 => .inr (e3, lEm v y.2))
  rcases q4 : S a3 c2 with ⟨k, p⟩ | ⟨a4, c4⟩
  · rw [q4] at e4
    obtain ⟨I4, A4, u1, u2', u3, u4, u5, u6, u7⟩ := e4
    have w5 : wI (I4 59 5) := by rw [u4]; omega
    have n5 : I4 59 5 ≠ -1 := by rw [u4]; omega
    have s93 := sg I4 A4 93 n5 w5
    have eB := em I4 A4 n5 w5
    refine mE.bad (u2 I4 59 7 (I4 59 7 - 1)) A4 (((fd.tr (z1.wd rfl)).tr u1).f rfl) (y2.tr u2') ((u2_f (by decide)).trans u3) ((u2_f (by decide)).trans u4) ⟨u5, u6⟩ ?_
    rw [cl_X11_readTwo]
    simp (implicitDefEqProofs := false) (disch := omega) only [↓rI_s, ↓rV_s, ↓rI_e, ↓rV_e, zc_eq, zc_ne, zc_lt, zc_ge, zc_gt, zc_le, zlt_t, zlt_f, zle_t, zle_f, zeq_t, zeq_f, lz, zadd, zsub, zmul, zneg, zb_e0, zb_e1, boo0, boo1, ua_s, ua_n, ua_ua, up_s, u2_s, u2_f, u2_c, u2_u2, Int.natCast_add, Int.zero_add, Int.add_zero, ↓reduceIte, ne_eq, not_true_eq_false, not_false_eq_true, Int.natCast_one, ↓k_X11_readTwo_0, ↓mc_59, ↓cV eo, ↓cV x4, ↓cV y7, ↓cV z4, ↓cV u7, ↓cV s93, ↓zg_59_7, ↓zp_59_7, ↓cV eB]
  rw [q4] at e4
  have r4 := hS.2 _ _ _ _ (by omega) (by omega) q4
  obtain ⟨I4, A4, u1, u2', u3, u4, ⟨u5, u6⟩, u7⟩ := e4
  have e5 := m_sign (c := 93) (W := W) (d := d) (by omega) u3 (by omega) u4
  show mE _ _ _ _ _ _ _ _ _ (bd (sgnS T n 93 a4) fun e3 => .inr (e3, lEm v c4))
  have fe : fi lKm I I4 := (fd.tr (z1.wd rfl)).tr u1
  rcases q5 : sgnS T n 93 a4 with ⟨k, p⟩ | a5
  · rw [q5] at e5
    have r5 := sgnS_l r4.2.1 q5
    obtain ⟨I5, t1, t2, t3, t4, t5⟩ := e5
    have w5 : wI (I5 59 5) := by rw [t4]; omega
    have n5 : I5 59 5 ≠ -1 := by rw [t4]; omega
    have eB := em I5 A4 n5 w5
    refine mE.bad (u2 I5 59 7 (I5 59 7 - 1)) A4 ((fe.tr (t1.wd rfl)).f rfl) (y2.tr u2') ((u2_f (by decide)).trans t3) ((u2_f (by decide)).trans t4) (by omega) ?_
    rw [cl_X11_readTwo]
    simp (implicitDefEqProofs := false) (disch := omega) only [↓rI_s, ↓rV_s, ↓rI_e, ↓rV_e, zc_eq, zc_ne, zc_lt, zc_ge, zc_gt, zc_le, zlt_t, zlt_f, zle_t, zle_f, zeq_t, zeq_f, lz, zadd, zsub, zmul, zneg, zb_e0, zb_e1, boo0, boo1, ua_s, ua_n, ua_ua, up_s, u2_s, u2_f, u2_c, u2_u2, Int.natCast_add, Int.zero_add, Int.add_zero, ↓reduceIte, ne_eq, not_true_eq_false, not_false_eq_true, Int.natCast_one, ↓k_X11_readTwo_0, ↓mc_59, ↓cV eo, ↓cV x4, ↓cV y7, ↓cV z4, ↓cV u7, ↓cV t5, ↓zg_59_7, ↓zp_59_7, ↓cV eB]
  · rw [q5] at e5
    have r5 := sgnS_r r4.2.1 q5
    obtain ⟨I5, t1, t2, t3, t4⟩ := e5
    have g7 : I5 59 7 = o + 1 := (t1 59 7 rfl).trans u6
    have o1 : o + 1 - 1 = o := by omega
    have f6 : fi [(59, 4), (59, 5), (59, 6), (59, 7)] I5 (u2 I5 59 7 o) := fi.refl.f rfl
    have emL := m_emitL (W := W) (d := d) (v := v) (wh := v - 1998) (oo := 0) (by omega) ((u5.k (t1.wd rfl)).k f6) (by omega) ((u2_f (by decide)).trans t3) ⟨fun _ => rfl, fun q => by omega, fun q q' => by omega⟩
    have em2 := emL.2
    refine mE.ok (u2 (u2 I5 59 7 o) 59 31 (c4.1 + 1)) (ua (ua A4 68 (up (A4 68) c4.1 (v - 1998))) 69 (up (A4 69) c4.1 0)) (((fe.tr (t1.wd rfl)).f rfl).f rfl) (((y2.tr u2').a rfl).a rfl) ((t2.fr (L := [68, 69]) ((fr.refl.a rfl).a rfl) rfl).fi (K := [(59, 7), (59, 31)]) ((fi.refl.f rfl).f rfl) rfl) ?_ ⟨emL.1, ?_⟩ ?_
    · rw [u2_f (by decide), u2_f (by decide)]; exact t3
    · rw [u2_f (by decide), u2_s]
    · rw [cl_X11_readTwo]
      simp (implicitDefEqProofs := false) (disch := omega) only [↓rI_s, ↓rV_s, ↓rI_e, ↓rV_e, zc_eq, zc_ne, zc_lt, zc_ge, zc_gt, zc_le, zlt_t, zlt_f, zle_t, zle_f, zeq_t, zeq_f, lz, zadd, zsub, zmul, zneg, zb_e0, zb_e1, boo0, boo1, ua_s, ua_n, ua_ua, up_s, u2_s, u2_f, u2_c, u2_u2, Int.natCast_add, Int.zero_add, Int.add_zero, ↓reduceIte, ne_eq, not_true_eq_false, not_false_eq_true, Int.natCast_one, ↓k_X11_readTwo_0, ↓mc_59, ↓cV eo, ↓cV x4, ↓cV y7, ↓cV z4, ↓cV u7, ↓cV t4, ↓zg_59_7, g7, ↓zp_59_7, o1, ↓cV em2]
theorem m_two6 {v y : Int} (hd : 6 ≤ d) (h : mTx T n a I A) (hb5 : I 59 5 = -1) (h7 : I 59 7 = 6) : ∃ I', fi lKm I I' ∧ I' 59 6 = 3 ∧ I' 59 5 = a ∧ q_call q_MT d 194 [.ref 59, .int (zI y), .int (zI (v - 1998))] (zM I A W) = some (.inl none, zM I' A W) := by
  obtain ⟨d, rfl⟩ : ∃ e, d = e + 1 := ⟨d - 1, by omega⟩
  have ha0 := h.2.2.2.2.1
  have han := h.2.2.2.2.2.1
  have hn6 := h.2.2.2.2.2.2
  have eo := m_opens6 (A := A) (W := W) (d := d) (y := y) (by omega) hb5 h.2.2.2.1 (by omega) h7
  have b5 : u2 (u2 (u2 I 59 5 a) 59 6 3) 59 7 7 59 5 = a := by rw [u2_f (by decide), u2_f (by decide), u2_s]
  have b6 : u2 (u2 (u2 I 59 5 a) 59 6 3) 59 7 7 59 6 = 3 := by rw [u2_f (by decide), u2_s]
  have f0 : fi lKm I (u2 (u2 (u2 I 59 5 a) 59 6 3) 59 7 7) := ((fi.refl.f rfl).f rfl).f rfl
  generalize u2 (u2 (u2 I 59 5 a) 59 6 3) 59 7 7 = I1 at eo b5 b6 f0
  have w5 : wI (I1 59 5) := by rw [b5]; omega
  have n5 : I1 59 5 ≠ -1 := by rw [b5]; omega
  have sB := m_readSum_b (I := I1) (A := A) (W := W) (d := d) (by omega) n5 w5
  have s91 := m_sign_b (I := I1) (A := A) (W := W) (d := d) (c := 91) (by omega) n5 w5
  have s44 := m_sign_b (I := I1) (A := A) (W := W) (d := d) (c := 44) (by omega) n5 w5
  have s93 := m_sign_b (I := I1) (A := A) (W := W) (d := d) (c := 93) (by omega) n5 w5
  have eB := m_emit_b (I := u2 I1 59 7 (I1 59 7 - 1)) (A := A) (W := W) (d := d) (wh := v - 1998) (oo := 0) (by omega) (by rw [u2_f (by decide)]; exact n5) (by rw [u2_f (by decide)]; exact w5)
  refine ⟨u2 I1 59 7 (I1 59 7 - 1), f0.f rfl, (u2_f (by decide)).trans b6, (u2_f (by decide)).trans b5, ?_⟩
  rw [cl_X11_readTwo]
  simp (implicitDefEqProofs := false) (disch := omega) only [↓rI_s, ↓rV_s, ↓rI_e, ↓rV_e, zc_eq, zc_ne, zc_lt, zc_ge, zc_gt, zc_le, zlt_t, zlt_f, zle_t, zle_f, zeq_t, zeq_f, lz, zadd, zsub, zmul, zneg, zb_e0, zb_e1, boo0, boo1, ua_s, ua_n, ua_ua, up_s, u2_s, u2_f, u2_c, u2_u2, Int.natCast_add, Int.zero_add, Int.add_zero, ↓reduceIte, ne_eq, not_true_eq_false, not_false_eq_true, Int.natCast_one, ↓k_X11_readTwo_0, ↓mc_59, ↓cV eo, ↓cV s91, ↓cV sB, ↓cV s44, ↓cV s93, ↓zg_59_7, ↓zp_59_7, ↓cV eB]
end LN
