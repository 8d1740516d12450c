--DEPS aa.qs
section QT
variable {R : zR} {F : zF} {I I1 I2 : Nat → Nat → Int} {A A1 A2 : Nat → Int → Int} {W W1 : qWt} {T tl s : Int → Int} {l : zL} {r : zG} {c n d : Nat} {f : Nat → Int32}
/-- a text refused whole -/
theorem qt_il {nC nH nM : Nat} {aC aH aM : List Value} (hI : Ivs c n f I A W) (hC : q_call q_MT d nC aC (zM I A W) = qIl I A W) (hM : q_call q_MT (d + 1) nM aM (zM (ilc I) A (ax W (.inr (13, [])))) = some (.inl (some (.int (zI 0))), zM (u2 (ilc I) 59 0 1) (mRf A 1) (ax W (.inr (13, []))))) (h2 : ∀ q h1, q_call q_MT d nC aC (zM I A W) = some (.inr (1, q), h1) → q_call q_MT (d + 1) nH aH (zM I A W) = some (.inl (some (.int (zI 1))), h1)) : QP (d + 1) c n f I A W nH aH nM aM := by
  obtain ⟨R, F, l, r, T, tl, hw⟩ := hI.1
  obtain ⟨-, i2, i3, i4, i5⟩ := hI
  refine ⟨ilc I, A, ax W (.inr (13, [])), _, _, _, 1, 0, h2 _ _ hC, i2, i3, hM, u2_s, .inr (.inl rfl), ⟨⟨R, F, l, r, T, tl, hw.il fr.refl⟩, i2, i3, ?_, ?_⟩⟩
  · show (dyn W ++ [_]).length ≤ _
    rw [List.length_append]
    show _ + 1 ≤ _; omega
  · show zz (dyn W ++ [_]) ≤ _
    rw [zz_ap]
    show _ + 6 ≤ _; omega
/-- a text read: its answer is the same -/
theorem qt_ok {nC nH nM : Nat} {aC aH aM : List Value} {v : Int} (hC : q_call q_MT d nC aC (zM I A W) = some (.inl (some (.int (zI v))), zM I1 A1 W1)) (h0 : ∀ x h1, q_call q_MT d nC aC (zM I A W) = some (.inl (some (.int x)), h1) → q_call q_MT (d + 1) nH aH (zM I A W) = q_lst h1 (.ref 89) (0 : Int32) (Int32.toInt64 x) fun h2 => some (.inl (some (.int (0 : Int32))), h2)) (w1 : W1.2.2.2.1 = n) (w2 : W1.2.2.2.2.1 = f) (hM : q_call q_MT (d + 1) nM aM (zM I1 A1 (oW W1 (zI v).toInt64)) = some (.inl (some (.int (zI v))), zM I2 A2 (oW W1 (zI v).toInt64))) (h59 : I2 59 0 = 0) (hw : Iw R F l r T tl I2 A2 W1) (b1 : (dyn W1).length ≤ 2 * (c + 1)) (b2 : zz (dyn W1) ≤ 46 * (c + 1)) : QP (d + 1) c n f I A W nH aH nM aM := by
  have H := h0 _ _ hC
  rw [z89_s] at H
  exact ⟨I1, A1, oW W1 (zI v).toInt64, I2, A2, oW W1 (zI v).toInt64, 0, v, H, w1, w2, hM, h59, .inl ⟨rfl, updL0 (g := W1.2.2.1) (x := (zI v).toInt64)⟩, ⟨⟨R, F, l, r, T, tl, hw⟩, w1, w2, b1, b2⟩⟩
theorem QP_book {a1 : Int} (hd : 20 ≤ d) (hI : Ivs c n f I A W) (w1 : wI a1) : QP (d + 1) c n f I A W 284 [.ref 2, .int (zI a1), .ref 89] 223 [.ref 59, .int (zI a1)] := by
  obtain ⟨R, F, l, r, T, tl, hw⟩ := hI.1
  have hI0 := hI
  obtain ⟨-, i2, i3, i4, i5⟩ := hI
  have h3 : j3 T I A := hw.2.2.1
  have H0 : ∀ x h1, q_call q_MT d 117 [.ref 2, .int (zI a1)] (zM I A W) = some (.inl (some (.int x)), h1) → q_call q_MT (d + 1) 284 [.ref 2, .int (zI a1), .ref 89] (zM I A W) = q_lst h1 (.ref 89) (0 : Int32) (Int32.toInt64 x) fun h2 => some (.inl (some (.int (0 : Int32))), h2) := fun x h1 e => by rw [cl_L_book, hL_book_0 _ _ _ _ _ _ _ e, mc_2]
  have H1 : ∀ q h1, q_call q_MT d 117 [.ref 2, .int (zI a1)] (zM I A W) = some (.inr (1, q), h1) → q_call q_MT (d + 1) 284 [.ref 2, .int (zI a1), .ref 89] (zM I A W) = some (.inl (some (.int (zI 1))), h1) := fun q h1 e => by
    rw [cl_L_book, hL_book_e1 _ _ _ _ _ _ _ e, mc_2]
    rfl
  have hC := C_book (d := d) (W := W) (n := a1) (by omega) h3.1 w1
  by_cases q : 0 ≤ a1 ∧ a1 ≤ 100 ∧ a1 ≤ I 3 1
  · rw [if_pos q] at hC
    rcases hb : bkS T a1 101 (fun _ => -1) 0 0 with ⟨k, p⟩ | ⟨x, g⟩
    · rw [hb] at hC
      obtain ⟨I1, A1, f1, g1, e1, e2, e3⟩ := hC
      have h31 : tpM T I1 A1 := by
        unfold tpM
        rw [f1 59 2 rfl, g1 61 rfl]; exact h3.2.1
      have q' : 0 ≤ a1 ∧ a1 ≤ 100 ∧ a1 ≤ I1 59 2 := by
        rw [f1 59 2 rfl, ← h3.2.2]; exact q
      have hM := M_book (d := d + 1) (W := oW W (zI (k - 10)).toInt64) (n := a1) (by omega) h31 w1
      rw [if_pos q', hb] at hM
      obtain ⟨I2, A2, f2, g2, z0, z1, z2, z3⟩ := hM
      have ff : fi (oK ++ nK) I I2 := (f1.wd rfl).tr (f2.wd rfl)
      have gg : fr [38, 80] A A2 := (g1.wd rfl).tr (g2.wd rfl)
      refine qt_ok (R := R) (F := F) (l := l) (r := r) (T := T) (tl := tl) e3 H0 i2 i3 z3 z0 ⟨hw.1.t ff gg rfl rfl, hw.2.1.t ff gg rfl rfl, h3.z ((f2 3 1 rfl).trans e1) z1, ((f2 3 7 rfl).trans e2).trans z2.symm, hw.2.2.2.2.1.t ff gg rfl rfl, hw.2.2.2.2.2.1.t ff rfl, hw.2.2.2.2.2.2.1.t ff gg rfl rfl, hw.2.2.2.2.2.2.2.1.t ff gg rfl rfl ⟨[], rfl, (List.append_nil _).symm⟩, hw.2.2.2.2.2.2.2.2.t ff gg rfl rfl ⟨[], rfl, (List.append_nil _).symm⟩⟩ (by omega) (by omega)
    · rw [hb] at hC
      obtain ⟨I1, A1, f1, g1, e1, e2, e4, e5, e6, e3⟩ := hC
      have h31 : tpM T I1 A1 := by
        unfold tpM
        rw [f1 59 2 rfl, g1 61 rfl]; exact h3.2.1
      have q' : 0 ≤ a1 ∧ a1 ≤ 100 ∧ a1 ≤ I1 59 2 := by
        rw [f1 59 2 rfl, ← h3.2.2]; exact q
      have hM := M_book (d := d + 1) (W := oW W (zI g.2).toInt64) (n := a1) (by omega) h31 w1
      rw [if_pos q', hb] at hM
      obtain ⟨I2, A2, f2, g2, z0, z1, z2, z4, z5, z3⟩ := hM
      have ff : fi ((36, 6) :: (59, 48) :: oK ++ nK) I I2 := (f1.wd rfl).tr (f2.wd rfl)
      have gg : fr [37, 38, 80, 81] A A2 := (g1.wd rfl).tr (g2.wd rfl)
      have e37 : A2 37 = A1 37 := g2 37 rfl
      refine qt_ok (R := R) (F := F) (l := l) (r := r) (T := T) (tl := g.1) e3 H0 i2 i3 z3 z0 ⟨hw.1.t ff gg rfl rfl, hw.2.1.t ff gg rfl rfl, h3.z ((f2 3 1 rfl).trans e1) z1, ((f2 3 7 rfl).trans e2).trans z2.symm, ⟨fun p p1 p2 => by rw [e37]; exact e5 p p1 p2, z5, e6, ((f2 36 6 rfl).trans e4).trans z4.symm⟩, hw.2.2.2.2.2.1.t ff rfl, hw.2.2.2.2.2.2.1.t ff gg rfl rfl, hw.2.2.2.2.2.2.2.1.t ff gg rfl rfl ⟨[], rfl, (List.append_nil _).symm⟩, hw.2.2.2.2.2.2.2.2.t ff gg rfl rfl ⟨[], rfl, (List.append_nil _).symm⟩⟩ (by omega) (by omega)
  · rw [if_neg q] at hC
    have q' : ¬ (0 ≤ a1 ∧ a1 ≤ 100 ∧ a1 ≤ ilc I 59 2) := by
      have : ilc I 59 2 = I 59 2 := rfl
      rw [this, ← h3.2.2]; exact q
    have hM := M_book (d := d + 1) (I := ilc I) (A := A) (W := ax W (.inr (13, []))) (n := a1) (by omega) h3.2.1 w1
    rw [if_neg q'] at hM
    exact qt_il hI0 hC hM H1
theorem QP_law {a1 : Int} (hd : 130 ≤ d) (hI : Ivs c n f I A W) (w1 : wI a1) : QP (d + 1) c n f I A W 282 [.ref 2, .int (zI a1), .ref 89] 197 [.ref 59, .int (zI a1)] := by
  obtain ⟨R, F, l, r, T, tl, hw⟩ := hI.1
  have hI0 := hI
  obtain ⟨-, i2, i3, i4, i5⟩ := hI
  have h3 : j3 T I A := hw.2.2.1
  have H0 : ∀ x h1, q_call q_MT d 115 [.ref 2, .int (zI a1)] (zM I A W) = some (.inl (some (.int x)), h1) → q_call q_MT (d + 1) 282 [.ref 2, .int (zI a1), .ref 89] (zM I A W) = q_lst h1 (.ref 89) (0 : Int32) (Int32.toInt64 x) fun h2 => some (.inl (some (.int (0 : Int32))), h2) := fun x h1 e => by rw [cl_L_law, hL_law_0 _ _ _ _ _ _ _ e, mc_2]
  have H1 : ∀ q h1, q_call q_MT d 115 [.ref 2, .int (zI a1)] (zM I A W) = some (.inr (1, q), h1) → q_call q_MT (d + 1) 282 [.ref 2, .int (zI a1), .ref 89] (zM I A W) = some (.inl (some (.int (zI 1))), h1) := fun q h1 e => by
    rw [cl_L_law, hL_law_e1 _ _ _ _ _ _ _ e, mc_2]
    rfl
  have hC := C_law (d := d) (W := W) (n := a1) (by omega) h3.1 w1
  by_cases q : 0 ≤ a1 ∧ a1 ≤ 150 ∧ a1 ≤ I 3 1
  · rw [if_pos q] at hC
    rcases hb : lwA T a1 with ⟨k, p⟩ | g
    · rw [hb] at hC
      obtain ⟨I1, A1, f1, g1, e1, e2, e3⟩ := hC
      have h31 : tpM T I1 A1 := by
        unfold tpM
        rw [f1 59 2 rfl, g1 61 rfl]; exact h3.2.1
      have q' : 0 ≤ a1 ∧ a1 ≤ 150 ∧ a1 ≤ I1 59 2 := by
        rw [f1 59 2 rfl, ← h3.2.2]; exact q
      have hM := M_law (d := d + 1) (W := oW W (zI (k - 10)).toInt64) (n := a1) (by omega) h31 w1
      rw [if_pos q', hb] at hM
      obtain ⟨I2, A2, f2, g2, z0, z1, z2, z3⟩ := hM
      have ff : fi ((19, 5) :: (59, 31) :: oK ++ nK) I I2 := (f1.wd rfl).tr (f2.wd rfl)
      have gg : fr [21, 68, 69] A A2 := (g1.wd rfl).tr (g2.wd rfl)
      refine qt_ok (R := R) (F := F) (l := l) (r := r) (T := T) (tl := tl) e3 H0 i2 i3 z3 z0 ⟨hw.1.t ff gg rfl rfl, hw.2.1.t ff gg rfl rfl, h3.z ((f2 3 1 rfl).trans e1) z1, ((f2 3 7 rfl).trans e2).trans z2.symm, hw.2.2.2.2.1.t ff gg rfl rfl, hw.2.2.2.2.2.1.t ff rfl, hw.2.2.2.2.2.2.1.t ff gg rfl rfl, hw.2.2.2.2.2.2.2.1.t ff gg rfl rfl ⟨[], rfl, (List.append_nil _).symm⟩, hw.2.2.2.2.2.2.2.2.t ff gg rfl rfl ⟨[], rfl, (List.append_nil _).symm⟩⟩ (by omega) (by omega)
    · rw [hb] at hC
      obtain ⟨I1, A1, f1, g1, e1, e2, e4, e3⟩ := hC
      have h31 : tpM T I1 A1 := by
        unfold tpM
        rw [f1 59 2 rfl, g1 61 rfl]; exact h3.2.1
      have q' : 0 ≤ a1 ∧ a1 ≤ 150 ∧ a1 ≤ I1 59 2 := by
        rw [f1 59 2 rfl, ← h3.2.2]; exact q
      have hM := M_law (d := d + 1) (W := oW W (zI 1).toInt64) (n := a1) (by omega) h31 w1
      rw [if_pos q', hb] at hM
      obtain ⟨I2, A2, f2, g2, z0, z1, z2, z4, z3⟩ := hM
      have ff : fi ((19, 4) :: (19, 5) :: (59, 31) :: (59, 32) :: oK ++ nK) I I2 := (f1.wd rfl).tr (f2.wd rfl)
      have gg : fr [20, 21, 68, 69, 70, 71] A A2 := (g1.wd rfl).tr (g2.wd rfl)
      have e76 : A2 76 = A 76 := gg 76 rfl
      have hB := hw.1.2.1
      rw [← ff 24 7 rfl, ← ff 24 8 rfl, ← gg 25 rfl, ← gg 26 rfl, ← gg 27 rfl, ← gg 28 rfl, ← gg 29 rfl, ← e76] at hB
      have hN := hw.1.2.2.1
      rw [← e76] at hN
      refine qt_ok (R := R) (F := evF g.2 g.1) (l := l) (r := r) (T := T) (tl := tl) e3 H0 i2 i3 z3 z0 ⟨⟨(hw.1.1.fi ff rfl).fr gg rfl, hB, hN, (e4.fi f2 rfl).fr g2 rfl⟩, ⟨(hw.2.1.1.fi ff rfl).fr gg rfl, z4⟩, h3.z ((f2 3 1 rfl).trans e1) z1, ((f2 3 7 rfl).trans e2).trans z2.symm, hw.2.2.2.2.1.t ff gg rfl rfl, hw.2.2.2.2.2.1.t ff rfl, hw.2.2.2.2.2.2.1.t ff gg rfl rfl, hw.2.2.2.2.2.2.2.1.t ff gg rfl rfl ⟨[], rfl, (List.append_nil _).symm⟩, hw.2.2.2.2.2.2.2.2.t ff gg rfl rfl ⟨[], rfl, (List.append_nil _).symm⟩⟩ (by omega) (by omega)
  · rw [if_neg q] at hC
    have q' : ¬ (0 ≤ a1 ∧ a1 ≤ 150 ∧ a1 ≤ ilc I 59 2) := by
      have : ilc I 59 2 = I 59 2 := rfl
      rw [this, ← h3.2.2]; exact q
    have hM := M_law (d := d + 1) (I := ilc I) (A := A) (W := ax W (.inr (13, []))) (n := a1) (by omega) h3.2.1 w1
    rw [if_neg q'] at hM
    exact qt_il hI0 hC hM H1
theorem QP_play {a1 : Int} (hd : 100 ≤ d) (hI : Ivs c n f I A W) (w1 : wI a1) : QP (d + 1) c n f I A W 283 [.ref 2, .int (zI a1), .ref 89] 203 [.ref 59, .int (zI a1)] := by
  obtain ⟨R, F, l, r, T, tl, hw⟩ := hI.1
  have hI0 := hI
  obtain ⟨-, i2, i3, i4, i5⟩ := hI
  have h3 : j3 T I A := hw.2.2.1
  have H0 : ∀ x h1, q_call q_MT d 116 [.ref 2, .int (zI a1)] (zM I A W) = some (.inl (some (.int x)), h1) → q_call q_MT (d + 1) 283 [.ref 2, .int (zI a1), .ref 89] (zM I A W) = q_lst h1 (.ref 89) (0 : Int32) (Int32.toInt64 x) fun h2 => some (.inl (some (.int (0 : Int32))), h2) := fun x h1 e => by rw [cl_L_play, hL_play_0 _ _ _ _ _ _ _ e, mc_2]
  have H1 : ∀ q h1, q_call q_MT d 116 [.ref 2, .int (zI a1)] (zM I A W) = some (.inr (1, q), h1) → q_call q_MT (d + 1) 283 [.ref 2, .int (zI a1), .ref 89] (zM I A W) = some (.inl (some (.int (zI 1))), h1) := fun q h1 e => by
    rw [cl_L_play, hL_play_e1 _ _ _ _ _ _ _ e, mc_2]
    rfl
  obtain ⟨h81, h82, h83, h84⟩ := hw.2.2.2.2.2.2.2.1
  have hC := C_play (d := d) (W := W) (n := a1) (by omega) h3.1 w1 (hw.c rfl) h81 h83
  have hX := hw.m rfl
  by_cases q : 0 ≤ a1 ∧ a1 ≤ 150 ∧ a1 ≤ I 3 1
  · rw [if_pos q] at hC
    by_cases q16 : l.length = 16
    · rw [if_pos q16] at hC
      obtain ⟨I1, f1, e1, e2, e3⟩ := hC
      have g1 : fr [] A A := fr.refl
      have h31 : tpM T I1 A := by
        unfold tpM
        rw [f1 59 2 rfl]; exact h3.2.1
      have q' : 0 ≤ a1 ∧ a1 ≤ 150 ∧ a1 ≤ I1 59 2 := by
        rw [f1 59 2 rfl, ← h3.2.2]; exact q
      have hM := M_play (d := d + 1) (W := oW W (zI (-20)).toInt64) (n := a1) (by omega) h31 w1 (hX.k f1 g1 rfl rfl) ((f1 59 37 rfl).trans h82) h83 h84
      rw [if_pos q', if_pos q16] at hM
      obtain ⟨I2, f2, z0, z1, z2, z3⟩ := hM
      have ff : fi (oK ++ nK) I I2 := (f1.wd rfl).tr (f2.wd rfl)
      refine qt_ok (R := R) (F := F) (l := l) (r := r) (T := T) (tl := tl) e3 H0 i2 i3 z3 z0 ⟨hw.1.t ff g1 rfl rfl, hw.2.1.t ff g1 rfl rfl, h3.z ((f2 3 1 rfl).trans e1) z1, ((f2 3 7 rfl).trans e2).trans z2.symm, hw.2.2.2.2.1.t ff g1 rfl rfl, hw.2.2.2.2.2.1.t ff rfl, hw.2.2.2.2.2.2.1.t ff g1 rfl rfl, hw.2.2.2.2.2.2.2.1.t ff g1 rfl rfl ⟨[], rfl, (List.append_nil _).symm⟩, hw.2.2.2.2.2.2.2.2.t ff g1 rfl rfl ⟨[], rfl, (List.append_nil _).symm⟩⟩ (by omega) (by omega)
    · rw [if_neg q16] at hC
      rcases hb : plA T a1 (rW R) with ⟨k, p⟩ | ⟨a2, g⟩
      · rw [hb] at hC
        obtain ⟨I1, A1, f1, g1, e1, e2, e3⟩ := hC
        have h31 : tpM T I1 A1 := by
          unfold tpM
          rw [f1 59 2 rfl, g1 61 rfl]; exact h3.2.1
        have q' : 0 ≤ a1 ∧ a1 ≤ 150 ∧ a1 ≤ I1 59 2 := by
          rw [f1 59 2 rfl, ← h3.2.2]; exact q
        have hM := M_play (d := d + 1) (W := oW W (zI (k - 10)).toInt64) (n := a1) (by omega) h31 w1 (hX.k f1 g1 rfl rfl) ((f1 59 37 rfl).trans h82) h83 (by rw [g1 78 rfl]; exact h84)
        rw [if_pos q', if_neg q16, hb] at hM
        obtain ⟨I2, A2, f2, g2, z0, z1, z2, z3⟩ := hM
        have ff : fi ((41, 3) :: (41, 4) :: (59, 36) :: oK ++ nK) I I2 := (f1.wd rfl).tr (f2.wd rfl)
        have gg : fr [42, 43, 44, 74] A A2 := (g1.wd rfl).tr (g2.wd rfl)
        refine qt_ok (R := R) (F := F) (l := l) (r := r) (T := T) (tl := tl) e3 H0 i2 i3 z3 z0 ⟨hw.1.t ff gg rfl rfl, hw.2.1.t ff gg rfl rfl, h3.z ((f2 3 1 rfl).trans e1) z1, ((f2 3 7 rfl).trans e2).trans z2.symm, hw.2.2.2.2.1.t ff gg rfl rfl, hw.2.2.2.2.2.1.t ff rfl, hw.2.2.2.2.2.2.1.t ff gg rfl rfl, hw.2.2.2.2.2.2.2.1.t ff gg rfl rfl ⟨[], rfl, (List.append_nil _).symm⟩, hw.2.2.2.2.2.2.2.2.t ff gg rfl rfl ⟨[], rfl, (List.append_nil _).symm⟩⟩ (by omega) (by omega)
      · rw [hb] at hC
        obtain ⟨I1, A1, x, y, gr, f1, g1, e1, e2, e4, e5, e6, e3⟩ := hC
        have h31 : tpM T I1 A1 := by
          unfold tpM
          rw [f1 59 2 rfl, g1 61 rfl]; exact h3.2.1
        have q' : 0 ≤ a1 ∧ a1 ≤ 150 ∧ a1 ≤ I1 59 2 := by
          rw [f1 59 2 rfl, ← h3.2.2]; exact q
        have hM := M_play (d := d + 1) (W := oW (.ref (90 + (dyn W).length), (dW W (dyn W ++ [kepE x W.1 y, rowE gr])).2) (zI (plSt R F g (cpy 47 (A 76) (A 77))).2.1).toInt64) (n := a1) (by omega) h31 w1 (hX.k f1 g1 rfl rfl) ((f1 59 37 rfl).trans h82) h83 (by rw [g1 78 rfl]; exact h84)
        rw [if_pos q', if_neg q16, hb] at hM
        obtain ⟨I2, A2, f2, g2, z0, z1, z2, z4, z5, z6, z7, z8, z9, z10, z3⟩ := hM
        have ff : fi (plK ++ mpK) I I2 := (f1.wd rfl).tr (f2.wd rfl)
        have gg : fr (plL ++ mpL) A A2 := (g1.wd rfl).tr (g2.wd rfl)
        have fq : fi [(59, 0), (59, 2), (59, 3), (59, 4), (59, 5), (59, 6), (59, 7), (59, 8), (59, 36), (59, 37), (59, 38), (59, 39), (59, 40), (59, 41)] I1 I2 := f2
        have c1 : cX R F (plSt R F g (cpy 47 (A 76) (A 77))).2.2.2 I2 A2 := by
          unfold cX cR cL at e5 ⊢
          rw [f2 5 0 rfl, f2 5 1 rfl, f2 5 2 rfl, f2 5 3 rfl, f2 5 4 rfl, f2 24 7 rfl, f2 24 8 rfl, f2 19 4 rfl, g2 7 rfl, g2 8 rfl, g2 10 rfl, g2 11 rfl, g2 25 rfl, g2 26 rfl, g2 27 rfl, g2 28 rfl, g2 29 rfl, g2 20 rfl]
          exact e5
        refine qt_ok (R := R) (F := F) (l := cpy 47 (A 76) (A 77) :: l) (r := r) (T := T) (tl := tl) e3 H0 i2 i3 z3 z0 ⟨c1.cg (sE.of hw.1.1.1 z9), ⟨z6, z7⟩, h3.z ((f2 3 1 rfl).trans e1) z1, ((f2 3 7 rfl).trans e2).trans z2.symm, hw.2.2.2.2.1.t ff gg rfl rfl, ((f2 2 15 rfl).trans e4).trans z5.symm, hw.2.2.2.2.2.2.1.t ff gg rfl rfl, ⟨e6, ?_, ?_, z10⟩, hw.2.2.2.2.2.2.2.2.t ff gg rfl rfl ⟨[kepE x W.1 y, rowE gr], rfl, rfl⟩⟩ ?_ ?_
        · rw [z4, List.length_cons]; rfl
        · rw [List.length_cons]; omega
        · show (dyn W ++ [_, _]).length ≤ _
          rw [List.length_append]
          show _ + 2 ≤ _; omega
        · show zz (dyn W ++ [_, _]) ≤ _
          rw [zz_ap]
          show _ + 40 ≤ _; omega
  · rw [if_neg q] at hC
    have q' : ¬ (0 ≤ a1 ∧ a1 ≤ 150 ∧ a1 ≤ ilc I 59 2) := by
      have : ilc I 59 2 = I 59 2 := rfl
      rw [this, ← h3.2.2]; exact q
    have hM := M_play (d := d + 1) (I := ilc I) (A := A) (W := ax W (.inr (13, []))) (n := a1) (by omega) h3.2.1 w1 (hX.k (fi.refl.f (c := 2) (f := 17) (L := [(2, 17)]) rfl) (fr.refl (L := [])) rfl rfl) h82 h83 h84
    rw [if_neg q'] at hM
    exact qt_il hI0 hC hM H1
theorem QP_room {a1 : Int} (hd : 20 ≤ d) (hI : Ivs c n f I A W) (w1 : wI a1) : QP (d + 1) c n f I A W 281 [.ref 2, .int (zI a1), .ref 89] 189 [.ref 59, .int (zI a1)] := by
  obtain ⟨R, F, l, r, T, tl, hw⟩ := hI.1
  have hI0 := hI
  obtain ⟨-, i2, i3, i4, i5⟩ := hI
  have h3 : j3 T I A := hw.2.2.1
  have H0 : ∀ x h1, q_call q_MT d 114 [.ref 2, .int (zI a1)] (zM I A W) = some (.inl (some (.int x)), h1) → q_call q_MT (d + 1) 281 [.ref 2, .int (zI a1), .ref 89] (zM I A W) = q_lst h1 (.ref 89) (0 : Int32) (Int32.toInt64 x) fun h2 => some (.inl (some (.int (0 : Int32))), h2) := fun x h1 e => by rw [cl_L_room, hL_room_0 _ _ _ _ _ _ _ e, mc_2]
  have H1 : ∀ q h1, q_call q_MT d 114 [.ref 2, .int (zI a1)] (zM I A W) = some (.inr (1, q), h1) → q_call q_MT (d + 1) 281 [.ref 2, .int (zI a1), .ref 89] (zM I A W) = some (.inl (some (.int (zI 1))), h1) := fun q h1 e => by
    rw [cl_L_room, hL_room_e1 _ _ _ _ _ _ _ e, mc_2]
    rfl
  have hC := C_room (d := d) (W := W) (n := a1) (by omega) h3.1 w1
  by_cases q : 0 ≤ a1 ∧ a1 ≤ I 3 1
  · rw [if_pos q] at hC
    rcases hb : rmA T a1 A with ⟨k, p⟩ | D
    · rw [hb] at hC
      obtain ⟨I1, A1, f1, g1, e1, e2, e3⟩ := hC
      have h31 : tpM T I1 A1 := by
        unfold tpM
        rw [f1 59 2 rfl, g1 61 rfl]; exact h3.2.1
      have q' : 0 ≤ a1 ∧ a1 ≤ I1 59 2 := by
        rw [f1 59 2 rfl, ← h3.2.2]; exact q
      have hM := M_room (G := A) (d := d + 1) (W := oW W (zI (k - 10)).toInt64) (n := a1) (by omega) h31 w1
      rw [if_pos q', hb] at hM
      obtain ⟨I2, A2, f2, g2, z0, z1, z2, z3⟩ := hM
      have ff : fi (rbK ++ mbK) I I2 := (f1.wd rfl).tr (f2.wd rfl)
      have gg : fr (dL ++ qL5) A A2 := (g1.wd rfl).tr (g2.wd rfl)
      refine qt_ok (R := R) (F := F) (l := l) (r := r) (T := T) (tl := tl) e3 H0 i2 i3 z3 z0 ⟨hw.1.t ff gg rfl rfl, hw.2.1.t ff gg rfl rfl, h3.z ((f2 3 1 rfl).trans e1) z1, ((f2 3 7 rfl).trans e2).trans z2.symm, hw.2.2.2.2.1.t ff gg rfl rfl, hw.2.2.2.2.2.1.t ff rfl, hw.2.2.2.2.2.2.1.t ff gg rfl rfl, hw.2.2.2.2.2.2.2.1.t ff gg rfl rfl ⟨[], rfl, (List.append_nil _).symm⟩, hw.2.2.2.2.2.2.2.2.t ff gg rfl rfl ⟨[], rfl, (List.append_nil _).symm⟩⟩ (by omega) (by omega)
    · rw [hb] at hC
      obtain ⟨I1, A1, f1, g1, e1, e2, e4, e5, e6, e7, e8, e9, e10, e3⟩ := hC
      have h31 : tpM T I1 A1 := by
        unfold tpM
        rw [f1 59 2 rfl, g1 61 rfl]; exact h3.2.1
      have q' : 0 ≤ a1 ∧ a1 ≤ I1 59 2 := by
        rw [f1 59 2 rfl, ← h3.2.2]; exact q
      have hM := M_room (G := A) (d := d + 1) (W := oW (.null, W.2) (zI (D.1 1)).toInt64) (n := a1) (by omega) h31 w1
      rw [if_pos q', hb] at hM
      obtain ⟨I2, A2, f2, g2, z0, z1, z2, z4, z5, z6, z7, z8, z9, z10, z3⟩ := hM
      have ff : fi (roK ++ moK) I I2 := (f1.wd rfl).tr (f2.wd rfl)
      have gg : fr (roL ++ [62, 63, 64, 65, 66, 67, 76]) A A2 := (g1.wd rfl).tr (g2.wd rfl)
      have e37 : A2 37 = A1 37 := g2 37 rfl
      have c1 : cX (Rn D) plF (sNw D) I2 A2 := by
        unfold cX cR cL at e10 ⊢
        rw [f2 5 0 rfl, f2 5 1 rfl, f2 5 2 rfl, f2 5 3 rfl, f2 5 4 rfl, f2 24 7 rfl, f2 24 8 rfl, f2 19 4 rfl, g2 7 rfl, g2 8 rfl, g2 10 rfl, g2 11 rfl, g2 25 rfl, g2 26 rfl, g2 27 rfl, g2 28 rfl, g2 29 rfl, g2 20 rfl]
        exact e10
      refine qt_ok (R := Rn D) (F := plF) (l := []) (r := []) (T := T) (tl := fun _ => -1) e3 H0 i2 i3 z3 z0 ⟨c1.cg z10, ⟨z8, z9⟩, h3.z ((f2 3 1 rfl).trans e1) z1, ((f2 3 7 rfl).trans e2).trans z2.symm, ⟨fun p p1 p2 => by rw [e37]; exact e7 p p1 p2, ⟨by rw [z6]; decide, fun p p1 p2 => by rw [z6, if_neg (by decide)]⟩, fun p p1 p2 => (by show (-1 : Int) ≤ -1 ∧ (-1 : Int) ≤ 60; decide), ((f2 36 6 rfl).trans e6).trans z6.symm⟩, ((f2 2 15 rfl).trans e5).trans z5.symm, hw.2.2.2.2.2.2.1.t ff gg rfl rfl, ⟨rfl, z4, by decide, trivial⟩, ⟨(f2 2 14 rfl).trans e4, z7, by decide, trivial, trivial⟩⟩ (show (dyn W).length ≤ _ by omega) (show zz (dyn W) ≤ _ by omega)
  · rw [if_neg q] at hC
    have q' : ¬ (0 ≤ a1 ∧ a1 ≤ ilc I 59 2) := by
      have : ilc I 59 2 = I 59 2 := rfl
      rw [this, ← h3.2.2]; exact q
    have hM := M_room (G := A) (d := d + 1) (I := ilc I) (A := A) (W := ax W (.inr (13, []))) (n := a1) (by omega) h3.2.1 w1
    rw [if_neg q'] at hM
    exact qt_il hI0 hC hM H1
end QT
