--DEPS 90.kept
/-! Plays that can be undone, images: chains of kept rows in the class, rows behind rows in the reference. -/
abbrev zL : Type := List (Int → Int)
def kC (R : zR) (D : List va_E) : Value → zL → Prop
  | v, [] => v = .null
  | v, s :: l => ∃ (i j : Nat) (b : Value) (g : Int → Int), v = .ref (90 + i) ∧ D[i]? = some (kepE (90 + j) b ((l.length : Int) + 1)) ∧ D[j]? = some (rowE g) ∧ kR R s g ∧ sN R s ∧ kC R D b l
def mC (P : Int → Int) : zL → Prop
  | [] => True
  | s :: l => (∀ k : Int, 0 ≤ k → k < 47 → P (47 * (l.length : Int) + k) = s k) ∧ mC P l
abbrev zG : Type := List ((Int → Int) × zL)
def kG (R : zR) (D : List va_E) (f : Nat → Option Nat) : zG → Prop
  | [] => True
  | (s, l) :: r => (∃ a, f r.length = some a ∧ kC R D (.ref a) (s :: l)) ∧ kG R D f r
def mG (P : Int → Int) : zG → Prop
  | [] => True
  | (s, l) :: r => (∀ k : Int, 0 ≤ k → k < 47 → P (800 * (r.length : Int) + k) = s k) ∧ mC (fun k => P (800 * (r.length : Int) + 47 + k)) l ∧ l.length ≤ 16 ∧ P (800 * (r.length : Int) + 799) = l.length ∧ mG P r
theorem kC.ap {R : zR} {D E : List va_E} : ∀ {l : zL} {v : Value}, kC R D v l → kC R (D ++ E) v l
  | [], v, h => h
  | s :: l, v, h => by
    obtain ⟨i, j, b, g, h1, h2, h3, h4, h5, h6⟩ := h
    refine ⟨i, j, b, g, h1, ?_, ?_, h4, h5, kC.ap h6⟩
    · rw [List.getElem?_append_left (List.getElem?_eq_some_iff.mp h2).1]; exact h2
    · rw [List.getElem?_append_left (List.getElem?_eq_some_iff.mp h3).1]; exact h3
theorem kG.ap {R : zR} {D E : List va_E} {f : Nat → Option Nat} : ∀ {r : zG}, kG R D f r → kG R (D ++ E) f r
  | [], h => h
  | (s, l) :: r, h => by
    obtain ⟨⟨a, h1, h2⟩, h3⟩ := h
    exact ⟨⟨a, h1, h2.ap⟩, kG.ap h3⟩
theorem kG.cg {R : zR} {D : List va_E} {f g : Nat → Option Nat} : ∀ {r : zG}, kG R D f r → (∀ k : Nat, k < r.length → g k = f k) → kG R D g r
  | [], h, _ => h
  | (s, l) :: r, h, q => by
    obtain ⟨⟨a, h1, h2⟩, h3⟩ := h
    exact ⟨⟨a, (q _ (by simp)).trans h1, h2⟩, kG.cg h3 (fun k hk => q k (by simp; omega))⟩
theorem mC.cg {P Q : Int → Int} : ∀ {l : zL}, mC P l → (∀ k : Int, 0 ≤ k → k < 47 * l.length → Q k = P k) → mC Q l
  | [], h, _ => h
  | s :: l, h, q => by
    obtain ⟨h1, h2⟩ := h
    have hl : ((s :: l).length : Int) = l.length + 1 := by simp
    rw [hl] at q
    exact ⟨fun k k0 k1 => (q _ (by omega) (by omega)).trans (h1 k k0 k1), mC.cg h2 (fun k k0 k1 => q k k0 (by omega))⟩
theorem mG.cg {P Q : Int → Int} : ∀ {r : zG}, mG P r → (∀ k : Int, 0 ≤ k → k < 800 * r.length → Q k = P k) → mG Q r
  | [], h, _ => h
  | (s, l) :: r, h, q => by
    obtain ⟨h1, h2, h3, h4, h5⟩ := h
    have hl : (((s, l) :: r).length : Int) = r.length + 1 := by simp
    rw [hl] at q
    exact ⟨fun k k0 k1 => (q _ (by omega) (by omega)).trans (h1 k k0 k1), h2.cg (fun k k0 k1 => q _ (by omega) (by omega)), h3, (q _ (by omega) (by omega)).trans h4, h5.cg (fun k k0 k1 => q k k0 (by omega))⟩
section UN
variable {d : Nat} {I : Nat → Nat → Int} {A : Nat → Int → Int} {W : qWt} {R : zR} {F : zF} {s : Int → Int} {l : zL} {r : zG}
theorem c_playCount (hd : 1 ≤ d) (h : kC R (dyn W) W.1 l) : q_call q_MT d 149 [.ref 2] (zM I A W) = some (.inl (some (.int (zI l.length))), zM I A W) := by
  obtain ⟨d, rfl⟩ : ∃ e, d = e + 1 := ⟨d - 1, by omega⟩
  rw [cl_X10_playCount, k_X10_playCount_0]
  cases l with
  | nil =>
    rw [zd_13n h, k_X10_playCount_18]
    rfl
  | cons s l =>
    obtain ⟨i, j, b, g, h1, h2, h3, h4, h5, h6⟩ := h
    rw [zd_13r h1, zd_13r h1, zd_gI (x := zI ((l.length : Int) + 1)) h2 rfl, k_X10_playCount_18]
    rfl
theorem k_X4_init_0n (call : Nat → List Value → qH → qR) (l0 : Nat) (h : qH) : q_run qm_X4_init call 0 [.ref l0, .null] [] h =
  q_nar h 0 (37 : Int32) fun r1 h2 =>
  q_pV h2 (.ref l0) 4 0 (.ref r1) fun h3 =>
  q_pV h3 (.ref l0) 4 1 (.null) fun h4 =>
  q_run qm_X4_init call 32 [.ref l0, .null] [.int (1 : Int32), .ref l0] h4 := by
  refine (q_cut_eq _ _ [0, 32] 200 _ _ _ _).trans ?_
  rfl
theorem cl_init_n (d : Nat) (l0 : Nat) (h : qH) : q_call q_MT (d + 1) 62 [.ref l0, .null] h = q_run qm_X4_init (q_call q_MT d) 0 [.ref l0, .null] [] h := q_call_s (M := qm_X4_init) rfl rfl rfl
theorem cl_init_r (d : Nat) (l0 l1 : Nat) (h : qH) : q_call q_MT (d + 1) 62 [.ref l0, .ref l1] h = q_run qm_X4_init (q_call q_MT d) 0 [.ref l0, .ref l1] [] h := q_call_s (M := qm_X4_init) rfl rfl rfl
theorem nar37 {I : Nat → Nat → Int} {A : Nat → Int → Int} {W : qWt} {k : Nat → qH → qR} : q_nar (zM I A W) 0 (zI 37) k = k (90 + (dyn W).length) (zM I A (ax W (rowE fun _ => 0))) := by
  unfold q_nar
  rw [if_pos (by decide), zM_l]
  have : q_mk 0 (zI 37).toNatClampNeg = rowE fun _ => 0 := rfl
  rw [this, zM_ax]
/-- a row is kept -/
theorem c_keepNow (hd : 2 ≤ d) (h : kC R (dyn W) W.1 l) : q_call q_MT d 150 [.ref 2] (zM I A W) = some (.inl (some (.ref (90 + (dyn W).length))), zM I A (dW W (dyn W ++ [kepE (90 + ((dyn W).length + 1)) W.1 ((l.length : Int) + 1), rowE (svR (A 25) (A 26) (A 27) (A 28) (fun _ => 0) (I 24 7) (I 24 8))]))) := by
  obtain ⟨d, rfl⟩ : ∃ e, d = e + 1 := ⟨d - 1, by omega⟩
  obtain ⟨d, rfl⟩ : ∃ e, d = e + 1 := ⟨d - 1, by omega⟩
  have gl : ∀ (D : List va_E) (x y : va_E), (D ++ [x, y])[D.length]? = some x := fun D x y => by
    rw [List.getElem?_append_right (Nat.le_refl _), Nat.sub_self]; rfl
  have gr : ∀ (D : List va_E) (x y : va_E), (D ++ [x, y])[D.length + 1]? = some y := fun D x y => by
    rw [List.getElem?_append_right (by omega), show D.length + 1 - D.length = 1 by omega]; rfl
  have sl : ∀ (D : List va_E) (x y z : va_E), (D ++ [x, y]).set D.length z = D ++ [z, y] := fun D x y z => by
    rw [List.set_append_right _ _ (Nat.le_refl _), Nat.sub_self]; rfl
  have sr : ∀ (D : List va_E) (x y z : va_E), (D ++ [x, y]).set (D.length + 1) z = D ++ [x, z] := fun D x y z => by
    rw [List.set_append_right _ _ (by omega), show D.length + 1 - D.length = 1 by omega]; rfl
  have ea : ∀ x y : va_E, ax (ax W x) y = dW W (dyn W ++ [x, y]) := fun x y => by
    unfold ax dW
    simp only [List.append_assoc]
    rfl
  have dd : ∀ D E : List va_E, dW (dW W D) E = dW W E := fun _ _ => rfl
  have dy : ∀ D : List va_E, dyn (dW W D) = D := fun _ => rfl
  have l1 : (dyn (ax W (.inr (4, [.null, .null, .int (zI 0)])))).length = (dyn W).length + 1 := by
    show (dyn W ++ _).length = _
    rw [List.length_append]; rfl
  have g1 : (dyn (ax W (.inr (4, [.null, .null, .int (zI 0)]))))[(dyn W).length]? = some (.inr (4, [.null, .null, .int (zI 0)])) := by
    show (dyn W ++ _)[_]? = _
    rw [List.getElem?_append_right (Nat.le_refl _), Nat.sub_self]; rfl
  have fin : ∀ (v : Value) (n : Int), q_call q_MT (d + 1) 20 [.ref 24, .ref (90 + ((dyn W).length + 1))] (zM I A (dW W (dyn W ++ [kepE (90 + ((dyn W).length + 1)) v n, rowE fun _ => 0]))) = some (.inl none, zM I A (dW W (dyn W ++ [kepE (90 + ((dyn W).length + 1)) v n, rowE (svR (A 25) (A 26) (A 27) (A 28) (fun _ => 0) (I 24 7) (I 24 8))]))) := by
    intro v n
    rw [c_saveD (g := fun _ => 0) (by omega) (gr _ _ _), dy, sr, dd]
  have k0 : ∀ (v : Value) (n : Int) (k : qH → qR), q_rV (some (.inl none, zM I A (dW W (dyn W ++ [kepE (90 + ((dyn W).length + 1)) v n, rowE fun _ => 0])))) (fun _ _ _ => none) k = k (zM I A (dW W (dyn W ++ [kepE (90 + ((dyn W).length + 1)) v n, rowE fun _ => 0]))) := fun _ _ _ => rfl
  rw [cl_X10_keepNow, k_X10_keepNow_0, zM_ax, zM_l]
  simp only [lz]
  cases l with
  | nil =>
    have hv : W.1 = .null := h
    rw [zd_13n (W := ax W _) hv, zd_rcv g1, cl_init_n, k_X4_init_0n]
    simp only [lz]
    rw [nar37, l1, ea, zd_pV (gl _ _ _) (Nat.le_of_ble_eq_true rfl), dy, sl, dd]
    rw [zd_pV (gl _ _ _) (Nat.le_of_ble_eq_true rfl), dy, sl, dd, k_X4_init_32, zd_pV (gl _ _ _) (Nat.le_of_ble_eq_true rfl), dy, sl, dd]
    have e1 : (Sum.inr (4, (([Value.null, .null, .int (zI 0)].set 0 (.ref (90 + ((dyn W).length + 1)))).set 1 .null).set 2 (.int (zI 1))) : va_E) = kepE (90 + ((dyn W).length + 1)) W.1 (((([] : zL).length : Nat) : Int) + 1) := by rw [hv]; rfl
    rw [e1, k0]
    simp (implicitDefEqProofs := false) (disch := omega) only [↓rI_s, ↓rV_s, ↓rI_e, ↓rV_e, zc_eq, zc_ne, zc_lt, zc_ge, zc_gt, zc_le, zlt_t, zlt_f, zle_t, zle_f, zeq_t, zeq_f, lz, zadd, zsub, zmul, zneg, zb_e0, zb_e1, boo0, boo1, ua_s, ua_n, ua_ua, up_s, u2_s, u2_f, u2_c, u2_u2, Int.natCast_add, Int.zero_add, Int.add_zero, ↓reduceIte, ne_eq, not_true_eq_false, not_false_eq_true, Int.natCast_one, ↓zg_2_6]
    rw [zd_gR (x := 90 + ((dyn W).length + 1)) (gl _ _ _) rfl]
    simp (implicitDefEqProofs := false) (disch := omega) only [↓rI_s, ↓rV_s, ↓rI_e, ↓rV_e, zc_eq, zc_ne, zc_lt, zc_ge, zc_gt, zc_le, zlt_t, zlt_f, zle_t, zle_f, zeq_t, zeq_f, lz, zadd, zsub, zmul, zneg, zb_e0, zb_e1, boo0, boo1, ua_s, ua_n, ua_ua, up_s, u2_s, u2_f, u2_c, u2_u2, Int.natCast_add, Int.zero_add, Int.add_zero, ↓reduceIte, ne_eq, not_true_eq_false, not_false_eq_true, Int.natCast_one, ↓mc_24]
    rw [fin]
    rfl
  | cons s l =>
    obtain ⟨i, j, b, g, h1, h2, h3, h4, h5, h6⟩ := h
    have hi := (List.getElem?_eq_some_iff.mp h2).1
    rw [zd_13r (W := ax W _) h1, zd_rcv g1, cl_init_r, k_X4_init_0]
    simp only [lz]
    rw [nar37, l1, ea, zd_pV (gl _ _ _) (Nat.le_of_ble_eq_true rfl), dy, sl, dd]
    rw [zd_pV (gl _ _ _) (Nat.le_of_ble_eq_true rfl), dy, sl, dd]
    rw [zd_gI (x := zI ((l.length : Int) + 1)) (by rw [dy, List.getElem?_append_left hi]; exact h2) rfl, k_X4_init_32, zd_pV (gl _ _ _) (Nat.le_of_ble_eq_true rfl), dy, sl, dd]
    have e1 : (Sum.inr (4, (([Value.null, .null, .int (zI 0)].set 0 (.ref (90 + ((dyn W).length + 1)))).set 1 (.ref (90 + i))).set 2 (.int (zI ((l.length : Int) + 1) + zI 1))) : va_E) = kepE (90 + ((dyn W).length + 1)) W.1 (((s :: l).length : Int) + 1) := by
      rw [h1, zadd]
      rfl
    rw [e1, k0]
    simp (implicitDefEqProofs := false) (disch := omega) only [↓rI_s, ↓rV_s, ↓rI_e, ↓rV_e, zc_eq, zc_ne, zc_lt, zc_ge, zc_gt, zc_le, zlt_t, zlt_f, zle_t, zle_f, zeq_t, zeq_f, lz, zadd, zsub, zmul, zneg, zb_e0, zb_e1, boo0, boo1, ua_s, ua_n, ua_ua, up_s, u2_s, u2_f, u2_c, u2_u2, Int.natCast_add, Int.zero_add, Int.add_zero, ↓reduceIte, ne_eq, not_true_eq_false, not_false_eq_true, Int.natCast_one, ↓zg_2_6]
    rw [zd_gR (x := 90 + ((dyn W).length + 1)) (gl _ _ _) rfl]
    simp (implicitDefEqProofs := false) (disch := omega) only [↓rI_s, ↓rV_s, ↓rI_e, ↓rV_e, zc_eq, zc_ne, zc_lt, zc_ge, zc_gt, zc_le, zlt_t, zlt_f, zle_t, zle_f, zeq_t, zeq_f, lz, zadd, zsub, zmul, zneg, zb_e0, zb_e1, boo0, boo1, ua_s, ua_n, ua_ua, up_s, u2_s, u2_f, u2_c, u2_u2, Int.natCast_add, Int.zero_add, Int.add_zero, ↓reduceIte, ne_eq, not_true_eq_false, not_false_eq_true, Int.natCast_one, ↓mc_24]
    rw [fin]
    rfl
theorem kC.kp {R : zR} {D : List va_E} {v : Value} {l : zL} {s g : Int → Int} (h : kC R D v l) (hk : kR R s g) (hs : sN R s) : kC R (D ++ [kepE (90 + (D.length + 1)) v ((l.length : Int) + 1), rowE g]) (.ref (90 + D.length)) (s :: l) := by
  refine ⟨D.length, D.length + 1, v, g, rfl, ?_, ?_, hk, hs, h.ap⟩
  · rw [List.getElem?_append_right (Nat.le_refl _), Nat.sub_self]; rfl
  · rw [List.getElem?_append_right (by omega), show D.length + 1 - D.length = 1 by omega]; rfl
theorem c_goBackTo {a : Nat} (hd : 3 ≤ d) (hR : cR R I A) (h : kC R (dyn W) (.ref a) (s :: l)) : ∃ I' A' v, fi [(24, 7), (24, 8), (2, 15)] I I' ∧ fr [25, 26, 27, 28, 29] A A' ∧ bR R s (A' 25) (A' 26) (A' 27) (A' 28) (A' 29) (I' 24 7) (I' 24 8) ∧ I' 2 15 = 0 ∧ sN R s ∧ kC R (dyn W) v l ∧ q_call q_MT d 151 [.ref 2, .ref a] (zM I A W) = some (.inl none, zM I' A' (v, W.2)) := by
  obtain ⟨d, rfl⟩ : ∃ e, d = e + 1 := ⟨d - 1, by omega⟩
  obtain ⟨i, j, b, g, h1, h2, h3, h4, h5, h6⟩ := h
  cases h1
  obtain ⟨I', A', f1, f2, hb, e⟩ := c_loadD (W := W) (show 2 ≤ d by omega) hR h5.1.1 h3 h4
  have x15 : ∀ {v : Value}, q_pV (zM I' A' (v, W.2)) (.ref 2) 10 15 (.int (zI 0)) (fun h9 => some (.inl none, h9)) = some (.inl none, zM (u2 I' 2 15 0) A' (v, W.2)) := fun {v} => zp_2_15
  refine ⟨u2 I' 2 15 0, A', b, (f1.wd rfl).f rfl, f2, hb, u2_s, h5, h6, ?_⟩
  rw [cl_X10_goBackTo, k_X10_goBackTo_0]
  simp (implicitDefEqProofs := false) (disch := omega) only [↓rI_s, ↓rV_s, ↓rI_e, ↓rV_e, zc_eq, zc_ne, zc_lt, zc_ge, zc_gt, zc_le, zlt_t, zlt_f, zle_t, zle_f, zeq_t, zeq_f, lz, zadd, zsub, zmul, zneg, zb_e0, zb_e1, boo0, boo1, ua_s, ua_n, ua_ua, up_s, u2_s, u2_f, u2_c, u2_u2, Int.natCast_add, Int.zero_add, Int.add_zero, ↓reduceIte, ne_eq, not_true_eq_false, not_false_eq_true, Int.natCast_one, ↓zg_2_6]
  rw [zd_gR (x := 90 + j) h2 rfl]
  simp (implicitDefEqProofs := false) (disch := omega) only [↓rI_s, ↓rV_s, ↓rI_e, ↓rV_e, zc_eq, zc_ne, zc_lt, zc_ge, zc_gt, zc_le, zlt_t, zlt_f, zle_t, zle_f, zeq_t, zeq_f, lz, zadd, zsub, zmul, zneg, zb_e0, zb_e1, boo0, boo1, ua_s, ua_n, ua_ua, up_s, u2_s, u2_f, u2_c, u2_u2, Int.natCast_add, Int.zero_add, Int.add_zero, ↓reduceIte, ne_eq, not_true_eq_false, not_false_eq_true, Int.natCast_one, ↓mc_24, e]
  cases l with
  | nil =>
    have hb0 : b = .null := h6
    subst hb0
    rw [zd_gN0 h2 rfl, zd_13p, x15]
  | cons s' l =>
    obtain ⟨i', j', b', g', q1, -⟩ := h6
    subst q1
    rw [zd_gN1 h2 rfl, zd_13p, x15]
theorem C_undo (hd : 4 ≤ d) (hR : cR R I A) (h : kC R (dyn W) W.1 l) : match l with
    | [] => q_call q_MT d 144 [.ref 2] (zM I A W) = some (.inl (some (.int (zI (-1)))), zM I A W)
    | s :: l => ∃ I' A' v, fi [(24, 7), (24, 8), (2, 15)] I I' ∧ fr [25, 26, 27, 28, 29] A A' ∧ bR R s (A' 25) (A' 26) (A' 27) (A' 28) (A' 29) (I' 24 7) (I' 24 8) ∧ I' 2 15 = 0 ∧ sN R s ∧ kC R (dyn W) v l ∧ q_call q_MT d 144 [.ref 2] (zM I A W) = some (.inl (some (.int (zI l.length))), zM I' A' (v, W.2)) := by
  obtain ⟨d, rfl⟩ : ∃ e, d = e + 1 := ⟨d - 1, by omega⟩
  rw [cl_X10_undo, k_X10_undo_0]
  cases l with
  | nil =>
    dsimp only
    rw [zd_13n h]
    rfl
  | cons s l =>
    dsimp only
    obtain ⟨a, ha⟩ : ∃ a, W.1 = .ref a := by
      obtain ⟨i, j, b, g, h1, -⟩ := h
      exact ⟨_, h1⟩
    rw [ha] at h
    obtain ⟨I', A', v, f1, f2, hb, h15, hs, hc, e⟩ := c_goBackTo (W := W) (show 3 ≤ d by omega) hR h
    refine ⟨I', A', v, f1, f2, hb, h15, hs, hc, ?_⟩
    have ep := c_playCount (d := d) (I := I') (A := A') (W := (v, W.2)) (R := R) (by omega) hc
    rw [zd_13r ha, zd_13r ha]
    simp (implicitDefEqProofs := false) (disch := omega) only [↓rI_s, ↓rV_s, ↓rI_e, ↓rV_e, zc_eq, zc_ne, zc_lt, zc_ge, zc_gt, zc_le, zlt_t, zlt_f, zle_t, zle_f, zeq_t, zeq_f, lz, zadd, zsub, zmul, zneg, zb_e0, zb_e1, boo0, boo1, ua_s, ua_n, ua_ua, up_s, u2_s, u2_f, u2_c, u2_u2, Int.natCast_add, Int.zero_add, Int.add_zero, ↓reduceIte, ne_eq, not_true_eq_false, not_false_eq_true, Int.natCast_one, ↓mc_2, e, ep]
theorem C_image (hd : 4 ≤ d) (hB : bR R s (A 25) (A 26) (A 27) (A 28) (A 29) (I 24 7) (I 24 8)) (hR : cR R I A) (hs : sN R s) (h : kC R (dyn W) W.1 l) (hi : I 2 14 = r.length) (hr : r.length ≤ 3) (hg : kG R (dyn W) W.2.1 r) : (r.length = 3 ∧ q_call q_MT d 145 [.ref 2] (zM I A W) = some (.inl (some (.int (zI (-1)))), zM I A W)) ∨ (r.length < 3 ∧ ∃ W', W'.1 = W.1 ∧ W'.2.2.1 = W.2.2.1 ∧ W'.2.2.2.1 = W.2.2.2.1 ∧ W'.2.2.2.2.1 = W.2.2.2.2.1 ∧ (∃ x y, dyn W' = dyn W ++ [kepE x W.1 y, rowE (svR (A 25) (A 26) (A 27) (A 28) (fun _ => 0) (I 24 7) (I 24 8))]) ∧ kG R (dyn W') W'.2.1 ((s, l) :: r) ∧ q_call q_MT d 145 [.ref 2] (zM I A W) = some (.inl (some (.int (zI (r.length + 1)))), zM (u2 I 2 14 (r.length + 1)) A W')) := by
  obtain ⟨d, rfl⟩ : ∃ e, d = e + 1 := ⟨d - 1, by omega⟩
  rw [cl_X10_image, k_X10_image_0]
  by_cases q : r.length = 3
  · refine .inl ⟨q, ?_⟩
    simp (implicitDefEqProofs := false) (disch := omega) only [↓rI_s, ↓rV_s, ↓rI_e, ↓rV_e, zc_eq, zc_ne, zc_lt, zc_ge, zc_gt, zc_le, zlt_t, zlt_f, zle_t, zle_f, zeq_t, zeq_f, lz, zadd, zsub, zmul, zneg, zb_e0, zb_e1, boo0, boo1, ua_s, ua_n, ua_ua, up_s, u2_s, u2_f, u2_c, u2_u2, Int.natCast_add, Int.zero_add, Int.add_zero, ↓reduceIte, ne_eq, not_true_eq_false, not_false_eq_true, Int.natCast_one, ↓zg_2_14, hi, ↓zg_2_11, ↓zd_57n, ↓k_X10_image_19]
  · refine .inr ⟨by omega, ?_⟩
    have ek := c_keepNow (d := d) (I := I) (A := A) (by omega) h
    generalize hD : dyn W ++ [kepE (90 + ((dyn W).length + 1)) W.1 ((l.length : Int) + 1), rowE (svR (A 25) (A 26) (A 27) (A 28) (fun _ => 0) (I 24 7) (I 24 8))] = D at ek
    have hk := h.kp (s := s) (svR_k (g := fun _ => 0) hR.1 hB) hs
    rw [hD] at hk
    have hD0 : D[(dyn W).length]? = some (.inr (4, [.ref (90 + ((dyn W).length + 1)), W.1, .int (zI ((l.length : Int) + 1))])) := by
      rw [← hD, List.getElem?_append_right (Nat.le_refl _), Nat.sub_self]; rfl
    refine ⟨((dW W D).1, va_up (dW W D).2.1 r.length (some (90 + (dyn W).length)), (dW W D).2.2), rfl, rfl, rfl, rfl, ⟨_, _, hD.symm⟩, ⟨⟨_, ?_, hk⟩, ?_⟩, ?_⟩
    · exact if_pos rfl
    · have : kG R D W.2.1 r := by rw [← hD]; exact hg.ap
      exact this.cg (fun k hk => if_neg (by omega))
    · have es := fun k => zd_57s (I := I) (A := A) (W := dW W D) (j := (r.length : Int)) (k := k) (by omega) (by omega) hD0
      have rR : ∀ {a : Nat} {h : qH} {k : Value → qH → qR}, q_rR (some (.inl (some (.ref a)), h)) q_t0 k = k (.ref a) h := fun {a h k} => rfl
      simp (implicitDefEqProofs := false) (disch := omega) only [↓rI_s, ↓rV_s, ↓rI_e, ↓rV_e, zc_eq, zc_ne, zc_lt, zc_ge, zc_gt, zc_le, zlt_t, zlt_f, zle_t, zle_f, zeq_t, zeq_f, lz, zadd, zsub, zmul, zneg, zb_e0, zb_e1, boo0, boo1, ua_s, ua_n, ua_ua, up_s, u2_s, u2_f, u2_c, u2_u2, Int.natCast_add, Int.zero_add, Int.add_zero, ↓reduceIte, ne_eq, not_true_eq_false, not_false_eq_true, Int.natCast_one, ↓zg_2_14, hi, ↓zg_2_11, ↓zd_57n, ↓mc_2, ek, rR, es, ↓zp_2_14]
      rfl
theorem C_restore (hd : 4 ≤ d) (hR : cR R I A) (hi : I 2 14 = r.length) (hr : r.length ≤ 3) (hg : kG R (dyn W) W.2.1 r) : match r with
    | [] => q_call q_MT d 146 [.ref 2] (zM I A W) = some (.inl (some (.int (zI (-1)))), zM I A W)
    | (s, l) :: r => ∃ I' A' v, fi [(24, 7), (24, 8), (2, 15), (2, 14)] I I' ∧ fr [25, 26, 27, 28, 29] A A' ∧ bR R s (A' 25) (A' 26) (A' 27) (A' 28) (A' 29) (I' 24 7) (I' 24 8) ∧ I' 2 15 = 0 ∧ I' 2 14 = r.length ∧ sN R s ∧ kC R (dyn W) v l ∧ q_call q_MT d 146 [.ref 2] (zM I A W) = some (.inl (some (.int (zI r.length))), zM I' A' (v, W.2)) := by
  obtain ⟨d, rfl⟩ : ∃ e, d = e + 1 := ⟨d - 1, by omega⟩
  rw [cl_X10_restore, k_X10_restore_0]
  cases r with
  | nil =>
    dsimp only
    have hi : I 2 14 = 0 := hi
    simp (implicitDefEqProofs := false) (disch := omega) only [↓rI_s, ↓rV_s, ↓rI_e, ↓rV_e, zc_eq, zc_ne, zc_lt, zc_ge, zc_gt, zc_le, zlt_t, zlt_f, zle_t, zle_f, zeq_t, zeq_f, lz, zadd, zsub, zmul, zneg, zb_e0, zb_e1, boo0, boo1, ua_s, ua_n, ua_ua, up_s, u2_s, u2_f, u2_c, u2_u2, Int.natCast_add, Int.zero_add, Int.add_zero, ↓reduceIte, ne_eq, not_true_eq_false, not_false_eq_true, Int.natCast_one, ↓zg_2_14, hi, ↓k_X10_restore_20]
  | cons x r =>
    obtain ⟨s, l⟩ := x
    dsimp only
    have hl : ((((s, l) :: r : zG).length : Nat) : Int) = r.length + 1 := by simp
    have hl2 : (((s, l) :: r : zG).length : Nat) = r.length + 1 := by simp
    rw [hl] at hi
    rw [hl2] at hr
    obtain ⟨⟨a, ha, hc⟩, hg⟩ := hg
    have f0 : fi [(2, 14)] I (u2 I 2 14 r.length) := fi.refl.f rfl
    obtain ⟨I', A', v, f1, f2, hb, h15, hs, hc, e⟩ := c_goBackTo (W := W) (show 3 ≤ d by omega) (hR.fi f0 rfl) hc
    have h14 : I' 2 14 = r.length := (f1 2 14 rfl).trans u2_s
    refine ⟨I', A', v, (f0.wd rfl).tr (f1.wd rfl), f2, hb, h15, h14, hs, hc, ?_⟩
    have el := fun k0 k1 => zd_57l (I := u2 I 2 14 r.length) (A := A) (W := W) (j := (r.length : Int)) (k0 := k0) (k1 := k1) (by omega) (by omega) (by rw [Int.toNat_natCast]; exact ha)
    have e1 : (r.length : Int) + 1 - 1 = r.length := by omega
    simp (implicitDefEqProofs := false) (disch := omega) only [↓rI_s, ↓rV_s, ↓rI_e, ↓rV_e, zc_eq, zc_ne, zc_lt, zc_ge, zc_gt, zc_le, zlt_t, zlt_f, zle_t, zle_f, zeq_t, zeq_f, lz, zadd, zsub, zmul, zneg, zb_e0, zb_e1, boo0, boo1, ua_s, ua_n, ua_ua, up_s, u2_s, u2_f, u2_c, u2_u2, Int.natCast_add, Int.zero_add, Int.add_zero, ↓reduceIte, ne_eq, not_true_eq_false, not_false_eq_true, Int.natCast_one, ↓zg_2_14, hi, ↓zg_2_11, ↓zd_57n, ↓zp_2_14, e1, el, ↓mc_2, e, ↓k_X10_restore_51, h14]
theorem k_status_d (call : Nat → List Value → qH → qR) (l0 : Nat) (l1 : Value) (x : Int32) (h : qH) (h0 : x.toInt ≠ 0) (h1 : x.toInt ≠ 1) : q_run qm_X10_status call 1 [.ref l0, l1] [.int x] h = some (.inl (some (.int (-1 : Int32))), h) := by
  have e : q_lsw [(0, 27), (1, 32)] 37 x.toInt = 37 := by
    unfold q_lsw
    rw [if_neg (Ne.symm h0)]
    unfold q_lsw
    rw [if_neg (Ne.symm h1)]
    rfl
  refine (q_run_eq _ _ _ _ _ _).trans ?_
  show q_run qm_X10_status call (q_tgt 1 (q_lsw [(0, 27), (1, 32)] 37 x.toInt)) [.ref l0, l1] [] h = _
  rw [e]
  show q_run qm_X10_status call 38 [.ref l0, l1] [] h = _
  refine (q_cut_eq _ _ [0] 200 _ _ _ _).trans ?_
  rfl
theorem C_status {k : Int} (hd : 1 ≤ d) (hk : wI k) : q_call q_MT d 147 [.ref 2, .int (zI k)] (zM I A W) = some (.inl (some (.int (zI (if k = 0 then I 2 16 else if k = 1 then I 2 17 else -1)))), zM I A W) := by
  obtain ⟨d, rfl⟩ : ∃ e, d = e + 1 := ⟨d - 1, by omega⟩
  rw [cl_X10_status, k_X10_status_0]
  by_cases q0 : k = 0
  · subst q0
    rw [if_pos rfl]
    exact k_X10_status_1_c0 _ _ _ _
  · rw [if_neg q0]
    by_cases q1 : k = 1
    · subst q1
      rw [if_pos rfl]
      exact k_X10_status_1_c1 _ _ _ _
    · rw [if_neg q1]
      have e := zI_toInt hk.1 hk.2
      exact k_status_d _ _ _ _ _ (by omega) (by omega)
theorem C_count {k : Int} (hd : 2 ≤ d) (hk : wI k) (h : kC R (dyn W) W.1 l) : q_call q_MT d 148 [.ref 2, .int (zI k)] (zM I A W) = some (.inl (some (.int (zI (if k = 0 then I 2 14 else if k = 1 then I 3 1 else if k = 2 then l.length else -1)))), zM I A W) := by
  obtain ⟨d, rfl⟩ : ∃ e, d = e + 1 := ⟨d - 1, by omega⟩
  rw [cl_X10_count, k_X10_count_0]
  by_cases q0 : k = 0
  · subst q0
    rw [if_pos rfl]
    exact k_X10_count_1_c0 _ _ _ _
  · rw [if_neg q0]
    by_cases q1 : k = 1
    · subst q1
      rw [if_pos rfl]
      exact k_X10_count_1_c1 _ _ _ _
    · rw [if_neg q1]
      by_cases q2 : k = 2
      · subst q2
        rw [if_pos rfl]
        refine (k_X10_count_1_c2 _ _ _ _).trans ?_
        have ep := c_playCount (d := d) (I := I) (A := A) (W := W) (R := R) (by omega) h
        simp (implicitDefEqProofs := false) (disch := omega) only [↓rI_s, ↓rV_s, ↓rI_e, ↓rV_e, zc_eq, zc_ne, zc_lt, zc_ge, zc_gt, zc_le, zlt_t, zlt_f, zle_t, zle_f, zeq_t, zeq_f, lz, zadd, zsub, zmul, zneg, zb_e0, zb_e1, boo0, boo1, ua_s, ua_n, ua_ua, up_s, u2_s, u2_f, u2_c, u2_u2, Int.natCast_add, Int.zero_add, Int.add_zero, ↓reduceIte, ne_eq, not_true_eq_false, not_false_eq_true, Int.natCast_one, ↓mc_2, ep]
      · rw [if_neg q2]
        have e := zI_toInt hk.1 hk.2
        exact k_X10_count_1_d _ _ _ _ _ (by omega)
theorem C_fault (hd : 1 ≤ d) : q_call q_MT d 118 [.ref 2] (zM I A W) = some (.inl (some (.int (zI (I 3 7)))), zM I A W) := by
  obtain ⟨d, rfl⟩ : ∃ e, d = e + 1 := ⟨d - 1, by omega⟩
  rw [cl_X10_fault]
  simp (implicitDefEqProofs := false) (disch := omega) only [↓rI_s, ↓rV_s, ↓rI_e, ↓rV_e, zc_eq, zc_ne, zc_lt, zc_ge, zc_gt, zc_le, zlt_t, zlt_f, zle_t, zle_f, zeq_t, zeq_f, lz, zadd, zsub, zmul, zneg, zb_e0, zb_e1, boo0, boo1, ua_s, ua_n, ua_ua, up_s, u2_s, u2_f, u2_c, u2_u2, Int.natCast_add, Int.zero_add, Int.add_zero, ↓reduceIte, ne_eq, not_true_eq_false, not_false_eq_true, Int.natCast_one, ↓k_X10_fault_0, ↓zg_2_0, ↓zg_3_7]
end UN
