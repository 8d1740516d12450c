--DEPS a8.inv
section OW
variable {I I' : Nat → Nat → Int} {A A' : Nat → Int → Int} {W W' : qWt}
def oW (W : qWt) (x : Int64) : qWt := (W.1, W.2.1, vp_updL W.2.2.1 0 x, W.2.2.2)
theorem z89_s {x : Int64} {k : qH → qR} : q_lst (zM I A W) (.ref 89) (0 : Int32) x k = k (zM I A (oW W x)) := by
  show (if (2 ≤ 89 ∧ 1 = 1 ∧ q_in (0 : Int32) 1 = true) then _ else none) = _
  rw [if_pos ⟨by decide, rfl, by decide⟩]
  rfl
theorem z89_l {k : Int64 → qR} : q_lld (zM I A W) (.ref 89) (0 : Int32) k = k (W.2.2.1 0) := by
  show (if (1 = 1 ∧ q_in (0 : Int32) 1 = true) then _ else none) = _
  rw [if_pos ⟨rfl, by decide⟩]
  rfl
theorem z0_l {j : Int} {k : Int32 → qR} (h0 : 0 ≤ j) (h1 : j < (W.2.2.2.1 : Int)) (h2 : j < 2147483648) (h3 : W.2.2.2.1 < 2147483648) : q_ald (zM I A W) (.ref 0) 0 (zI j) k = k (W.2.2.2.2.1 j.toNat) := by
  have e1 := zI_in (n := W.2.2.2.1) h0 h1 h3
  have e2 := zI_cl h0 h2
  have e3 : (zI j).toNatClampNeg = j.toNat := by omega
  show (if (0 : Nat) = 0 then (if q_in (zI j) W.2.2.2.1 = true then k (W.2.2.2.2.1 (zI j).toNatClampNeg) else none) else none) = _
  rw [if_pos rfl, if_pos e1, e3]
theorem z0_n {k : Int32 → qR} : q_len (zM I A W) (.ref 0) k = k (Int32.ofNat W.2.2.2.1) := rfl
theorem m_thrown {d : Nat} (hd : 1 ≤ d) : q_call q_MT d 163 [.ref 59] (zM I A W) = some (.inl (some (.int (zI (I 59 0)))), zM I A W) := by
  obtain ⟨d, rfl⟩ : ∃ e, d = e + 1 := ⟨d - 1, by omega⟩
  rw [cl_X11_thrown, k_X11_thrown_0]
  simp (implicitDefEqProofs := false) (disch := omega) only [↓rI_s, ↓rV_s, ↓rI_e, ↓rV_e, zc_eq, zc_ne, zc_lt, zc_ge, zc_gt, zc_le, zlt_t, zlt_f, zle_t, zle_f, zeq_t, zeq_f, lz, zadd, zsub, zmul, zneg, zb_e0, zb_e1, boo0, boo1, ua_s, ua_n, ua_ua, up_s, u2_s, u2_f, u2_c, u2_u2, Int.natCast_add, Int.zero_add, Int.add_zero, ↓reduceIte, ne_eq, not_true_eq_false, not_false_eq_true, Int.natCast_one, ↓zg_59_0]
end OW
/-- a call of the law's, of both: what the class's helper says, what the reference says -/
def QP (d c n : Nat) (f : Nat → Int32) (I : Nat → Nat → Int) (A : Nat → Int → Int) (W : qWt) (nH : Nat) (aH : List Value) (nM : Nat) (aM : List Value) : Prop := ∃ I1 A1 W1 I2 A2 W2 k b, q_call q_MT d nH aH (zM I A W) = some (.inl (some (.int (zI k))), zM I1 A1 W1) ∧ W1.2.2.2.1 = n ∧ W1.2.2.2.2.1 = f ∧ q_call q_MT d nM aM (zM I1 A1 W1) = some (.inl (some (.int (zI b))), zM I2 A2 W2) ∧ I2 59 0 = k ∧ ((k = 0 ∧ W2.2.2.1 0 = (zI b).toInt64) ∨ k = 1 ∨ k = 2) ∧ Ivs (c + 1) n f I2 A2 W2
section QPs
variable {R : zR} {F : zF} {I I' : Nat → Nat → Int} {A A' : Nat → Int → Int} {W W' : qWt} {T tl s : Int → Int} {l : zL} {r : zG} {c n d : Nat} {f : Nat → Int32}
/-- after a refusal -/
theorem Iw.ns {x : va_E} (h : Iw R F l r T tl I A W) : Iw R F l r T tl (u2 (nsc I) 59 0 1) (mRf A 0) (ax W x) := by
  have f : fi [(2, 16), (59, 0)] I (u2 (nsc I) 59 0 1) := (fi.refl.f rfl).f rfl
  have g : fr [60] A (mRf A 0) := fr.refl.a rfl
  refine ⟨h.1.t f g rfl rfl, h.2.1.t f g rfl rfl, h.2.2.1.t f g rfl rfl, h.2.2.2.1.t f rfl, h.2.2.2.2.1.t f g rfl rfl, h.2.2.2.2.2.1.t f rfl, ⟨?_, ?_⟩, h.2.2.2.2.2.2.2.1.t f g rfl rfl ⟨[x], rfl, rfl⟩, h.2.2.2.2.2.2.2.2.t f g rfl rfl ⟨[x], rfl, rfl⟩⟩
  · show I 2 16 + 1 = A 60 0 + 1
    rw [h.2.2.2.2.2.2.1.1]
  · exact h.2.2.2.2.2.2.1.2
theorem Iw.il {x : va_E} {B : Nat → Int → Int} {c2 : Int} (h : Iw R F l r T tl I A W) (hB : fr [77] A B) : Iw R F l r T tl (u2 (ilc I) 59 0 c2) (mRf B 1) (ax W x) := by
  have f : fi [(2, 17), (59, 0)] I (u2 (ilc I) 59 0 c2) := (fi.refl.f rfl).f rfl
  have g : fr [60, 77] A (mRf B 1) := (hB.wd rfl).a rfl
  have e60 : B 60 = A 60 := hB 60 rfl
  refine ⟨h.1.t f g rfl rfl, h.2.1.t f g rfl rfl, h.2.2.1.t f g rfl rfl, h.2.2.2.1.t f rfl, h.2.2.2.2.1.t f g rfl rfl, h.2.2.2.2.2.1.t f rfl, ⟨?_, ?_⟩, h.2.2.2.2.2.2.2.1.t f g rfl rfl ⟨[x], rfl, rfl⟩, h.2.2.2.2.2.2.2.2.t f g rfl rfl ⟨[x], rfl, rfl⟩⟩
  · show I 2 16 = B 60 0
    rw [e60]
    exact h.2.2.2.2.2.2.1.1
  · show I 2 17 + 1 = B 60 1 + 1
    rw [e60, h.2.2.2.2.2.2.1.2]
theorem updL0 {g : Nat → Int64} {x : Int64} : vp_updL g 0 x 0 = x := by
  unfold vp_updL
  simp
theorem mX.k (h : mX R F s I A) {K : List (Nat × Nat)} {L : List Nat} (f : fi K I I') (g : fr L A A') (hk : jk [(59, 21), (59, 22), (59, 23), (59, 24), (59, 25), (59, 32)] K = true) (hl : jl [66, 67, 70, 71, 76, 77] L = true) : mX R F s I' A' := by
  unfold mX mR mL
  rw [f 59 21 (nk hk rfl), f 59 22 (nk hk rfl), f 59 23 (nk hk rfl), f 59 24 (nk hk rfl), f 59 25 (nk hk rfl), f 59 32 (nk hk rfl), g 66 (nk hl rfl), g 67 (nk hl rfl), g 70 (nk hl rfl), g 71 (nk hl rfl), g 76 (nk hl rfl), g 77 (nk hl rfl)]
  exact h
theorem qp {nC nH nM o : Nat} {aC aH aM : List Value} {v c2 : Int} (hI : Ivs c n f I A W) (hw : Iw R F l r T tl I A W) (hs : cpy 47 (A 76) (A 77) = s) (hC : cOut I A W (q_call q_MT d nC aC (zM I A W)) o v) (hM : ∀ I1 A1 W1, mX R F s I1 A1 → mT tl I1 A1 → I1 59 48 = I 59 48 → I1 59 38 = I 59 38 → mOut I1 A1 W1 (q_call q_MT (d + 1) nM aM (zM I1 A1 W1)) o v c2) (h0 : ∀ x h1, q_call q_MT d nC aC (zM I A W) = some (.inl (some (.int x)), h1) → q_call q_MT (d + 1) nH aH (zM I A W) = q_lst h1 (.ref 89) (0 : Int32) (Int32.toInt64 x) fun h2 => some (.inl (some (.int (0 : Int32))), h2)) (h1 : o = 1 → ∀ q h1, q_call q_MT d nC aC (zM I A W) = some (.inr (0, q), h1) → q_call q_MT (d + 1) nH aH (zM I A W) = some (.inl (some (.int (zI 1))), h1)) (h2 : o = 2 → ∀ q h1, q_call q_MT d nC aC (zM I A W) = some (.inr (1, q), h1) → q_call q_MT (d + 1) nH aH (zM I A W) = some (.inl (some (.int (zI c2))), h1)) (hc2 : c2 = 1 ∨ c2 = 2) : QP (d + 1) c n f I A W nH aH nM aM := by
  have hm := hw.m hs
  have hT := hw.2.2.2.2.1.2.1
  obtain ⟨i1, i2, i3, i4, i5⟩ := hI
  rcases hC with ⟨rfl, I1, A1, f1, g1, e⟩ | ⟨rfl, e⟩ | ⟨rfl, e⟩
  · have H := h0 _ _ e
    rw [z89_s] at H
    have hT1 : mT tl I1 A1 := hT.t (f1.wd rfl) (g1.wd rfl)
    rcases hM I1 A1 (oW W (zI v).toInt64) (hm.k f1 g1 rfl rfl) hT1 (f1 59 48 rfl) (f1 59 38 rfl) with ⟨-, I2, A2, E, f2, g2, z0, hl, e2⟩ | ⟨q, -⟩ | ⟨q, -⟩
    · have hw' : Iw R F l r T tl I A (oW W (zI v).toInt64) := hw
      refine ⟨I1, A1, oW W (zI v).toInt64, I2, A2, axs (oW W (zI v).toInt64) E, 0, v, H, i2, i3, e2, z0, .inl ⟨rfl, updL0 (g := W.2.2.1) (x := (zI v).toInt64)⟩, ⟨⟨R, F, l, r, T, tl, hw'.q ((f1.wd rfl).tr f2) ((g1.wd rfl).tr g2)⟩, i2, i3, ?_, ?_⟩⟩
      · show (dyn W ++ E).length ≤ _
        rw [List.length_append]
        rcases hl with rfl | ⟨g, rfl⟩
        · show _ + 0 ≤ _; omega
        · show _ + 1 ≤ _; omega
      · show zz (dyn W ++ E) ≤ _
        rw [zz_ap]
        rcases hl with rfl | ⟨g, rfl⟩
        · show _ + 0 ≤ _; omega
        · show _ + 40 ≤ _; omega
    · cases q
    · cases q
  · have H := h1 rfl _ _ e
    rcases hM (nsc I) A (ax W (.inr (12, []))) (hm.k (fi.refl.f (c := 2) (f := 16) (L := [(2, 16)]) rfl) (fr.refl (L := [])) rfl rfl) hT rfl rfl with ⟨q, -⟩ | ⟨-, e2⟩ | ⟨q, -⟩
    · cases q
    · refine ⟨nsc I, A, ax W (.inr (12, [])), _, _, _, 1, 0, H, i2, i3, e2, u2_s, .inr (.inl rfl), ⟨⟨R, F, l, r, T, tl, hw.ns⟩, i2, i3, ?_, ?_⟩⟩
      · show (dyn W ++ [_]).length ≤ _
        rw [List.length_append]
        show _ + 1 ≤ _; omega
      · show zz (dyn W ++ [_]) ≤ _
        rw [zz_ap]
        show _ + 6 ≤ _; omega
    · cases q
  · have H := h2 rfl _ _ e
    rcases hM (ilc I) A (ax W (.inr (13, []))) (hm.k (fi.refl.f (c := 2) (f := 17) (L := [(2, 17)]) rfl) (fr.refl (L := [])) rfl rfl) hT rfl rfl with ⟨q, -⟩ | ⟨q, -⟩ | ⟨-, A2, g2, e2⟩
    · cases q
    · cases q
    · refine ⟨ilc I, A, ax W (.inr (13, [])), _, _, _, c2, 0, H, i2, i3, e2, u2_s, .inr hc2, ⟨⟨R, F, l, r, T, tl, hw.il g2⟩, i2, i3, ?_, ?_⟩⟩
      · show (dyn W ++ [_]).length ≤ _
        rw [List.length_append]
        show _ + 1 ≤ _; omega
      · show zz (dyn W ++ [_]) ≤ _
        rw [zz_ap]
        show _ + 6 ≤ _; omega
end QPs
