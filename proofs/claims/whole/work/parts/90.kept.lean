--DEPS 89.read
/-! Rows that were kept: cells behind the first ninety. -/
abbrev dyn (W : qWt) : List va_E := W.2.2.2.2.2
def dW (W : qWt) (D : List va_E) : qWt := (W.1, W.2.1, W.2.2.1, W.2.2.2.1, W.2.2.2.2.1, D)
abbrev rowE (g : Int → Int) : va_E := .inl (0, 37, .inl (za g))
abbrev kepE (r : Nat) (b : Value) (n : Int) : va_E := .inr (4, [.ref r, b, .int (zI n)])
section DY
variable {I : Nat → Nat → Int} {A : Nat → Int → Int} {W : qWt} {i j : Nat}
theorem zM_l : (zM I A W).length = 90 + (dyn W).length := by
  unfold zM
  rw [List.length_append]
  rfl
theorem zM_g : (zM I A W)[90 + i]? = (dyn W)[i]? := by
  unfold zM
  rw [List.getElem?_append_right (by show 90 ≤ 90 + i; omega)]
  show (dyn W)[90 + i - 90]? = _
  rw [show 90 + i - 90 = i by omega]
theorem zM_s {x : va_E} : (zM I A W).set (90 + i) x = zM I A (dW W ((dyn W).set i x)) := by
  unfold zM
  rw [List.set_append_right _ _ (by show 90 ≤ 90 + i; omega)]
  show _ ++ (dyn W).set (90 + i - 90) x = _
  rw [show 90 + i - 90 = i by omega]
  rfl
theorem zd_gI {f : Nat} {fs : List Value} {x : Int32} {k : Int32 → qR} (h : (dyn W)[i]? = some (.inr (4, fs))) (hx : fs[f]? = some (.int x)) : q_gI (zM I A W) (.ref (90 + i)) 4 f k = k x := by
  unfold q_gI q_obj
  simp only [zM_g, h, if_true, hx]
theorem zd_gR {f x : Nat} {fs : List Value} {k : Nat → qR} (h : (dyn W)[i]? = some (.inr (4, fs))) (hx : fs[f]? = some (.ref x)) : q_gR (zM I A W) (.ref (90 + i)) 4 f k = k x := by
  unfold q_gR q_obj
  simp only [zM_g, h, if_true, hx]
theorem zd_gN0 {f : Nat} {fs : List Value} {k0 : qR} {k1 : Nat → qR} (h : (dyn W)[i]? = some (.inr (4, fs))) (hx : fs[f]? = some .null) : q_gN (zM I A W) (.ref (90 + i)) 4 f k0 k1 = k0 := by
  unfold q_gN q_obj
  simp only [zM_g, h, if_true, hx]
theorem zd_gN1 {f x : Nat} {fs : List Value} {k0 : qR} {k1 : Nat → qR} (h : (dyn W)[i]? = some (.inr (4, fs))) (hx : fs[f]? = some (.ref x)) : q_gN (zM I A W) (.ref (90 + i)) 4 f k0 k1 = k1 x := by
  unfold q_gN q_obj
  simp only [zM_g, h, if_true, hx]
theorem zd_rcv {fs : List Value} {k : qR} (h : (dyn W)[i]? = some (.inr (4, fs))) : q_rcv (zM I A W) (.ref (90 + i)) 4 k = k := by
  unfold q_rcv q_obj
  simp only [zM_g, h, if_true]
theorem zd_pV {f : Nat} {fs : List Value} {w : Value} {k : qH → qR} (h : (dyn W)[i]? = some (.inr (4, fs))) (hf : f < fs.length) : q_pV (zM I A W) (.ref (90 + i)) 4 f w k = k (zM I A (dW W ((dyn W).set i (.inr (4, fs.set f w))))) := by
  unfold q_pV q_obj
  simp only [zM_g, h, if_true, zM_s]
  rw [if_pos ⟨by omega, hf⟩]
theorem zd_len {g : Int → Int} {k : Int32 → qR} (h : (dyn W)[i]? = some (rowE g)) : q_len (zM I A W) (.ref (90 + i)) k = k (zI 37) := by
  unfold q_len
  simp only [zM_g, h]
  rw [if_pos (by decide)]
  rfl
theorem zd_ld {g : Int → Int} {j : Int} {k : Int32 → qR} (h : (dyn W)[i]? = some (rowE g)) (h0 : 0 ≤ j) (h1 : j < 37) : q_ald (zM I A W) (.ref (90 + i)) 0 (zI j) k = k (zI (g j)) := zx_ld (n := 37) (zM_g.trans h) (by decide) h0 h1
theorem zd_13n {k0 : qR} {k1 : Nat → qR} (h : W.1 = .null) : q_gN (zM I A W) (.ref 2) 10 13 k0 k1 = k0 := by
  obtain ⟨v, W⟩ := W
  cases h
  rfl
theorem zd_13r {a : Nat} {k0 : qR} {k1 : Nat → qR} (h : W.1 = .ref a) : q_gN (zM I A W) (.ref 2) 10 13 k0 k1 = k1 a := by
  obtain ⟨v, W⟩ := W
  cases h
  rfl
theorem zd_13p {v : Value} {k : qH → qR} : q_pV (zM I A W) (.ref 2) 10 13 v k = k (zM I A (v, W.2)) := rfl
theorem zd_57n {k : Int32 → qR} : q_len (zM I A W) (.ref 57) k = k (zI 3) := rfl
theorem zd_57l {j : Int} {a : Nat} {k0 : qR} {k1 : Nat → qR} (h0 : 0 ≤ j) (h1 : j < 3) (h : W.2.1 j.toNat = some a) : q_rld (zM I A W) (.ref 57) (zI j) k0 k1 = k1 a := by
  have e1 := zI_in (n := 3) h0 (by omega) (by decide)
  have e2 := zI_cl h0 (show j < 2147483648 by omega)
  have e3 : (zI j).toNatClampNeg = j.toNat := by omega
  show (if (4 = 4 ∧ q_in (zI j) 3 = true) then (match W.2.1 (zI j).toNatClampNeg with
      | none => k0
      | some b => k1 b) else none) = _
  rw [if_pos ⟨rfl, e1⟩, e3, h]
theorem zd_57s {j : Int} {fs : List Value} {k : qH → qR} (h0 : 0 ≤ j) (h1 : j < 3) (h : (dyn W)[i]? = some (.inr (4, fs))) : q_rst (zM I A W) (.ref 57) (zI j) (.ref (90 + i)) k = k (zM I A (W.1, va_up W.2.1 j.toNat (some (90 + i)), W.2.2)) := by
  have e1 := zI_in (n := 3) h0 (by omega) (by decide)
  have e2 := zI_cl h0 (show j < 2147483648 by omega)
  have e3 : (zI j).toNatClampNeg = j.toNat := by omega
  show (if (2 ≤ 57 ∧ 4 = 4 ∧ q_in (zI j) 3 = true) then (match (zM I A W)[90 + i]? with
      | some (.inr (4, _)) => k ((zM I A W).set 57 (.inl (4, 3, .inr (.inr (.inr (.inr (va_up W.2.1 (zI j).toNatClampNeg (some (90 + i)))))))))
      | _ => none) else none) = _
  rw [if_pos ⟨by decide, rfl, e1⟩, zM_g, h, e3]
  rfl
theorem zd_c25 {g : Int → Int} {k : qH → qR} (h : (dyn W)[i]? = some (rowE g)) : q_cpy (zM I A W) (.ref 25) (zI 0) (.ref (90 + i)) (zI 0) (zI 10) k = k (zM I A (dW W ((dyn W).set i (rowE (uc (A 25) g 0 0 10))))) := zx_cp (c := 25) (c' := 90 + i) (n := 10) (n' := 37) (f := A 25) (g := g) rfl (zM_g.trans h) (by omega) (by omega) (by decide) (by decide) zM_s (by decide) (by decide) (by decide) (by decide) (by decide)
theorem zd_l25 {g : Int → Int} {k : qH → qR} (h : (dyn W)[i]? = some (rowE g)) : q_cpy (zM I A W) (.ref (90 + i)) (zI 0) (.ref 25) (zI 0) (zI 10) k = k (zM I (ua A 25 (uc g (A 25) 0 0 10)) W) := zx_cp (c := 90 + i) (c' := 25) (n := 37) (n' := 10) (f := g) (g := A 25) (zM_g.trans h) rfl (by decide) (by omega) (by decide) (by decide) rfl (by decide) (by decide) (by decide) (by decide) (by decide)
theorem zd_c26 {g : Int → Int} {k : qH → qR} (h : (dyn W)[i]? = some (rowE g)) : q_cpy (zM I A W) (.ref 26) (zI 0) (.ref (90 + i)) (zI 10) (zI 10) k = k (zM I A (dW W ((dyn W).set i (rowE (uc (A 26) g 0 10 10))))) := zx_cp (c := 26) (c' := 90 + i) (n := 10) (n' := 37) (f := A 26) (g := g) rfl (zM_g.trans h) (by omega) (by omega) (by decide) (by decide) zM_s (by decide) (by decide) (by decide) (by decide) (by decide)
theorem zd_l26 {g : Int → Int} {k : qH → qR} (h : (dyn W)[i]? = some (rowE g)) : q_cpy (zM I A W) (.ref (90 + i)) (zI 10) (.ref 26) (zI 0) (zI 10) k = k (zM I (ua A 26 (uc g (A 26) 10 0 10)) W) := zx_cp (c := 90 + i) (c' := 26) (n := 37) (n' := 10) (f := g) (g := A 26) (zM_g.trans h) rfl (by decide) (by omega) (by decide) (by decide) rfl (by decide) (by decide) (by decide) (by decide) (by decide)
theorem zd_c27 {g : Int → Int} {k : qH → qR} (h : (dyn W)[i]? = some (rowE g)) : q_cpy (zM I A W) (.ref 27) (zI 0) (.ref (90 + i)) (zI 20) (zI 10) k = k (zM I A (dW W ((dyn W).set i (rowE (uc (A 27) g 0 20 10))))) := zx_cp (c := 27) (c' := 90 + i) (n := 10) (n' := 37) (f := A 27) (g := g) rfl (zM_g.trans h) (by omega) (by omega) (by decide) (by decide) zM_s (by decide) (by decide) (by decide) (by decide) (by decide)
theorem zd_l27 {g : Int → Int} {k : qH → qR} (h : (dyn W)[i]? = some (rowE g)) : q_cpy (zM I A W) (.ref (90 + i)) (zI 20) (.ref 27) (zI 0) (zI 10) k = k (zM I (ua A 27 (uc g (A 27) 20 0 10)) W) := zx_cp (c := 90 + i) (c' := 27) (n := 37) (n' := 10) (f := g) (g := A 27) (zM_g.trans h) rfl (by decide) (by omega) (by decide) (by decide) rfl (by decide) (by decide) (by decide) (by decide) (by decide)
theorem zd_c28 {g : Int → Int} {k : qH → qR} (h : (dyn W)[i]? = some (rowE g)) : q_cpy (zM I A W) (.ref 28) (zI 0) (.ref (90 + i)) (zI 30) (zI 5) k = k (zM I A (dW W ((dyn W).set i (rowE (uc (A 28) g 0 30 5))))) := zx_cp (c := 28) (c' := 90 + i) (n := 5) (n' := 37) (f := A 28) (g := g) rfl (zM_g.trans h) (by omega) (by omega) (by decide) (by decide) zM_s (by decide) (by decide) (by decide) (by decide) (by decide)
theorem zd_l28 {g : Int → Int} {k : qH → qR} (h : (dyn W)[i]? = some (rowE g)) : q_cpy (zM I A W) (.ref (90 + i)) (zI 30) (.ref 28) (zI 0) (zI 5) k = k (zM I (ua A 28 (uc g (A 28) 30 0 5)) W) := zx_cp (c := 90 + i) (c' := 28) (n := 37) (n' := 5) (f := g) (g := A 28) (zM_g.trans h) rfl (by decide) (by omega) (by decide) (by decide) rfl (by decide) (by decide) (by decide) (by decide) (by decide)
theorem zd_st {g : Int → Int} {j x : Int} {k : qH → qR} (h : (dyn W)[i]? = some (rowE g)) (h0 : 0 ≤ j) (h1 : j < 37) : q_ast (zM I A W) (.ref (90 + i)) 0 (zI j) (zI x) k = k (zM I A (dW W ((dyn W).set i (rowE (up g j x))))) := zx_st (c := 90 + i) (n := 37) (f := g) (zM_g.trans h) (by omega) (by decide) zM_s h0 h1
theorem dW_set {D : List va_E} {x y : va_E} : dW (dW W (D.set i x)) ((dyn (dW W (D.set i x))).set i y) = dW W (D.set i y) := by
  show dW (dW W _) ((D.set i x).set i y) = _
  rw [List.set_set]
  rfl
theorem dW_get {D : List va_E} {x y : va_E} (h : D[i]? = some y) : (dyn (dW W (D.set i x)))[i]? = some x := by
  show (D.set i x)[i]? = _
  rw [List.getElem?_set_self (List.getElem?_eq_some_iff.mp h).1]
end DY
section KP
variable {d : Nat} {I : Nat → Nat → Int} {A : Nat → Int → Int} {W : qWt} {R : zR} {F : zF} {s : Int → Int} {i j : Nat}
theorem c_saveD {g : Int → Int} (hd : 1 ≤ d) (h : (dyn W)[i]? = some (rowE g)) : q_call q_MT d 20 [.ref 24, .ref (90 + i)] (zM I A W) = some (.inl none, zM I A (dW W ((dyn W).set i (rowE (svR (A 25) (A 26) (A 27) (A 28) g (I 24 7) (I 24 8)))))) := by
  obtain ⟨d, rfl⟩ : ∃ e, d = e + 1 := ⟨d - 1, by omega⟩
  rw [cl_X1_save, k_X1_save_0, zd_len h]
  simp (implicitDefEqProofs := false) (disch := omega) only [↓rI_s, ↓rV_s, ↓rI_e, ↓rV_e, zc_eq, zc_ne, zc_lt, zc_ge, zc_gt, zc_le, zlt_t, zlt_f, zle_t, zle_f, zeq_t, zeq_f, lz, zadd, zsub, zmul, zneg, zb_e0, zb_e1, boo0, boo1, ua_s, ua_n, ua_ua, up_s, u2_s, u2_f, u2_c, u2_u2, Int.natCast_add, Int.zero_add, Int.add_zero, ↓reduceIte, ne_eq, not_true_eq_false, not_false_eq_true, Int.natCast_one, ↓zg_24_2, ↓zg_24_3, ↓zg_24_4, ↓zg_24_5, ↓zg_24_7, ↓zg_24_8]
  rw [zd_c25 h]
  simp (implicitDefEqProofs := false) (disch := omega) only [↓rI_s, ↓rV_s, ↓rI_e, ↓rV_e, zc_eq, zc_ne, zc_lt, zc_ge, zc_gt, zc_le, zlt_t, zlt_f, zle_t, zle_f, zeq_t, zeq_f, lz, zadd, zsub, zmul, zneg, zb_e0, zb_e1, boo0, boo1, ua_s, ua_n, ua_ua, up_s, u2_s, u2_f, u2_c, u2_u2, Int.natCast_add, Int.zero_add, Int.add_zero, ↓reduceIte, ne_eq, not_true_eq_false, not_false_eq_true, Int.natCast_one, ↓zg_24_3]
  rw [zd_c26 (dW_get h), dW_set]
  simp (implicitDefEqProofs := false) (disch := omega) only [↓rI_s, ↓rV_s, ↓rI_e, ↓rV_e, zc_eq, zc_ne, zc_lt, zc_ge, zc_gt, zc_le, zlt_t, zlt_f, zle_t, zle_f, zeq_t, zeq_f, lz, zadd, zsub, zmul, zneg, zb_e0, zb_e1, boo0, boo1, ua_s, ua_n, ua_ua, up_s, u2_s, u2_f, u2_c, u2_u2, Int.natCast_add, Int.zero_add, Int.add_zero, ↓reduceIte, ne_eq, not_true_eq_false, not_false_eq_true, Int.natCast_one, ↓zg_24_4]
  rw [zd_c27 (dW_get h), dW_set]
  simp (implicitDefEqProofs := false) (disch := omega) only [↓rI_s, ↓rV_s, ↓rI_e, ↓rV_e, zc_eq, zc_ne, zc_lt, zc_ge, zc_gt, zc_le, zlt_t, zlt_f, zle_t, zle_f, zeq_t, zeq_f, lz, zadd, zsub, zmul, zneg, zb_e0, zb_e1, boo0, boo1, ua_s, ua_n, ua_ua, up_s, u2_s, u2_f, u2_c, u2_u2, Int.natCast_add, Int.zero_add, Int.add_zero, ↓reduceIte, ne_eq, not_true_eq_false, not_false_eq_true, Int.natCast_one, ↓zg_24_5]
  rw [zd_c28 (dW_get h), dW_set]
  simp (implicitDefEqProofs := false) (disch := omega) only [↓rI_s, ↓rV_s, ↓rI_e, ↓rV_e, zc_eq, zc_ne, zc_lt, zc_ge, zc_gt, zc_le, zlt_t, zlt_f, zle_t, zle_f, zeq_t, zeq_f, lz, zadd, zsub, zmul, zneg, zb_e0, zb_e1, boo0, boo1, ua_s, ua_n, ua_ua, up_s, u2_s, u2_f, u2_c, u2_u2, Int.natCast_add, Int.zero_add, Int.add_zero, ↓reduceIte, ne_eq, not_true_eq_false, not_false_eq_true, Int.natCast_one, ↓zg_24_7]
  rw [zd_st (dW_get h) (by decide) (by decide), dW_set]
  simp (implicitDefEqProofs := false) (disch := omega) only [↓rI_s, ↓rV_s, ↓rI_e, ↓rV_e, zc_eq, zc_ne, zc_lt, zc_ge, zc_gt, zc_le, zlt_t, zlt_f, zle_t, zle_f, zeq_t, zeq_f, lz, zadd, zsub, zmul, zneg, zb_e0, zb_e1, boo0, boo1, ua_s, ua_n, ua_ua, up_s, u2_s, u2_f, u2_c, u2_u2, Int.natCast_add, Int.zero_add, Int.add_zero, ↓reduceIte, ne_eq, not_true_eq_false, not_false_eq_true, Int.natCast_one, ↓zg_24_8]
  rw [zd_st (dW_get h) (by decide) (by decide), dW_set]
  rfl
theorem c_loadD {g : Int → Int} (hd : 2 ≤ d) (hR : cR R I A) (hs : sP R s) (h : (dyn W)[i]? = some (rowE g)) (hk : kR R s g) : ∃ I' A', fi [(24, 7), (24, 8)] I I' ∧ fr [25, 26, 27, 28, 29] A A' ∧ bR R s (A' 25) (A' 26) (A' 27) (A' 28) (A' 29) (I' 24 7) (I' 24 8) ∧ q_call q_MT d 21 [.ref 24, .ref (90 + i)] (zM I A W) = some (.inl none, zM I' A' W) := by
  obtain ⟨d, rfl⟩ : ∃ e, d = e + 1 := ⟨d - 1, by omega⟩
  have h10 := hR.1.2.1
  have h5 := hR.1.1
  obtain ⟨k1, k2, k3, k4, k5, k6⟩ := hk
  have f1 : fr [25, 26, 27, 28] A (ua (ua (ua (ua A 25 (uc g (A 25) 0 0 10)) 26 (uc g (A 26) 10 0 10)) 27 (uc g (A 27) 20 0 10)) 28 (uc g (A 28) 30 0 5)) := (((fr.refl.a rfl).a rfl).a rfl).a rfl
  have f2 : fi [(24, 7), (24, 8)] I (u2 (u2 I 24 7 (g 35)) 24 8 (g 36)) := (fi.refl.f rfl).f rfl
  obtain ⟨g', hb, e⟩ := c24_load76 (l1 := .ref (90 + i)) (W := W) (s := s) (show 1 ≤ d by omega) ((hR.fi f2 rfl).fr f1 rfl) hs (fun w w0 w1 => by
      show uc g (A 25) 0 0 10 w = _
      rw [uc_in (by omega) (by omega), show 0 + (w - 0) = w by omega]; exact k1 w w0 w1) (fun w w0 w1 => by
      show uc g (A 26) 10 0 10 w = _
      rw [uc_in (by omega) (by omega), show 10 + (w - 0) = 10 + w by omega]; exact k2 w w0 w1) (fun w w0 w1 => by
      show uc g (A 27) 20 0 10 w = _
      rw [uc_in (by omega) (by omega), show 20 + (w - 0) = 20 + w by omega]; exact k3 w w0 w1) (fun w w0 w1 => by
      show uc g (A 28) 30 0 5 w = _
      rw [uc_in (by omega) (by omega), show 30 + (w - 0) = 30 + w by omega]; exact k4 w w0 w1) (by rw [u2_f (by decide), u2_s]; exact k5) (by rw [u2_s]; exact k6)
  refine ⟨_, _, f2, (f1.wd rfl).a (c := 29) (g := g') rfl, hb, ?_⟩
  rw [cl_X1_load, k_X1_load_0, zd_len h]
  simp (implicitDefEqProofs := false) (disch := omega) only [↓rI_s, ↓rV_s, ↓rI_e, ↓rV_e, zc_eq, zc_ne, zc_lt, zc_ge, zc_gt, zc_le, zlt_t, zlt_f, zle_t, zle_f, zeq_t, zeq_f, lz, zadd, zsub, zmul, zneg, zb_e0, zb_e1, boo0, boo1, ua_s, ua_n, ua_ua, up_s, u2_s, u2_f, u2_c, u2_u2, Int.natCast_add, Int.zero_add, Int.add_zero, ↓reduceIte, ne_eq, not_true_eq_false, not_false_eq_true, Int.natCast_one, ↓zg_24_2, ↓zg_24_3, ↓zg_24_4, ↓zg_24_5]
  rw [zd_l25 h]
  simp (implicitDefEqProofs := false) (disch := omega) only [↓rI_s, ↓rV_s, ↓rI_e, ↓rV_e, zc_eq, zc_ne, zc_lt, zc_ge, zc_gt, zc_le, zlt_t, zlt_f, zle_t, zle_f, zeq_t, zeq_f, lz, zadd, zsub, zmul, zneg, zb_e0, zb_e1, boo0, boo1, ua_s, ua_n, ua_ua, up_s, u2_s, u2_f, u2_c, u2_u2, Int.natCast_add, Int.zero_add, Int.add_zero, ↓reduceIte, ne_eq, not_true_eq_false, not_false_eq_true, Int.natCast_one, ↓zg_24_3]
  rw [zd_l26 h]
  simp (implicitDefEqProofs := false) (disch := omega) only [↓rI_s, ↓rV_s, ↓rI_e, ↓rV_e, zc_eq, zc_ne, zc_lt, zc_ge, zc_gt, zc_le, zlt_t, zlt_f, zle_t, zle_f, zeq_t, zeq_f, lz, zadd, zsub, zmul, zneg, zb_e0, zb_e1, boo0, boo1, ua_s, ua_n, ua_ua, up_s, u2_s, u2_f, u2_c, u2_u2, Int.natCast_add, Int.zero_add, Int.add_zero, ↓reduceIte, ne_eq, not_true_eq_false, not_false_eq_true, Int.natCast_one, ↓zg_24_4, ↓zg_24_5]
  rw [zd_l27 h]
  simp (implicitDefEqProofs := false) (disch := omega) only [↓rI_s, ↓rV_s, ↓rI_e, ↓rV_e, zc_eq, zc_ne, zc_lt, zc_ge, zc_gt, zc_le, zlt_t, zlt_f, zle_t, zle_f, zeq_t, zeq_f, lz, zadd, zsub, zmul, zneg, zb_e0, zb_e1, boo0, boo1, ua_s, ua_n, ua_ua, up_s, u2_s, u2_f, u2_c, u2_u2, Int.natCast_add, Int.zero_add, Int.add_zero, ↓reduceIte, ne_eq, not_true_eq_false, not_false_eq_true, Int.natCast_one, ↓zg_24_5]
  rw [zd_l28 h, zd_ld h (by decide) (by decide)]
  simp (implicitDefEqProofs := false) (disch := omega) only [↓rI_s, ↓rV_s, ↓rI_e, ↓rV_e, zc_eq, zc_ne, zc_lt, zc_ge, zc_gt, zc_le, zlt_t, zlt_f, zle_t, zle_f, zeq_t, zeq_f, lz, zadd, zsub, zmul, zneg, zb_e0, zb_e1, boo0, boo1, ua_s, ua_n, ua_ua, up_s, u2_s, u2_f, u2_c, u2_u2, Int.natCast_add, Int.zero_add, Int.add_zero, ↓reduceIte, ne_eq, not_true_eq_false, not_false_eq_true, Int.natCast_one, ↓zp_24_7]
  rw [zd_ld h (by decide) (by decide)]
  simp (implicitDefEqProofs := false) (disch := omega) only [↓rI_s, ↓rV_s, ↓rI_e, ↓rV_e, zc_eq, zc_ne, zc_lt, zc_ge, zc_gt, zc_le, zlt_t, zlt_f, zle_t, zle_f, zeq_t, zeq_f, lz, zadd, zsub, zmul, zneg, zb_e0, zb_e1, boo0, boo1, ua_s, ua_n, ua_ua, up_s, u2_s, u2_f, u2_c, u2_u2, Int.natCast_add, Int.zero_add, Int.add_zero, ↓reduceIte, ne_eq, not_true_eq_false, not_false_eq_true, Int.natCast_one, ↓zp_24_8]
  exact e
end KP
