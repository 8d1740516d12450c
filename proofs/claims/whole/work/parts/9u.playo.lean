--DEPS 9t.playn
section PO
variable {d : Nat} {I I' : Nat → Nat → Int} {A : Nat → Int → Int} {W : qWt} {T : Int → Int} {n a w : Int} {p : zPg} {R : zR}
theorem qSs_c {f g : zPp} {a b : Int} (h : f a p = g b p) : qSs T n f a p = qSs T n g b p := by
  unfold qSs
  rw [h]
/-- a flick, behind its word -/
theorem m_flickS {k : Int} {l1 l3 : Value} {x : Int} {o : Int} (hd : 4 ≤ d) (hw : 0 ≤ w ∧ w ≤ 10) (h : mTx T n a I A) (hb5 : I 59 5 = -1) (h7 : I 59 7 = o) (h22 : I 59 22 = w) (hQ : mQ p I A) (hp : p.1 < 38) (hk : (x = lcs 15 ∧ k = 0) ∨ (x = lcs 16 ∧ k = 1)) (hl : l1 = .int (zI x)) : ∀ r, (q_rcv (zM I A W) (.ref 59) 11 (q_rI (q_call q_MT d 176 [.ref 59, .int (zI 0), .int (zI (w - 1))] (zM I A W)) q_t0 fun x5 h4 => q_rI (q_call q_MT d 174 [.float 15] h4) q_t0 fun x7 h6 => if ¬ (zI x = x7) then q_run qm_X11_readStep (q_call q_MT d) 105 [.ref 59, .int (zI x), .int x5, l3] [.int (zI 1), .ref 59] h6 else q_run qm_X11_readStep (q_call q_MT d) 105 [.ref 59, .int (zI x), .int x5, l3] [.int (zI 0), .ref 59] h6)) = r → mE T n pKm [74] I A W r (fun p' I' A' => mQ p' I' A' ∧ I' 59 7 = o) (qSs T n (fun _ p => qFl T n w k a p) a p) := by
  rintro r rfl
  have han := h.2.2.2.2.2.1
  have ha0 := h.2.2.2.2.1
  have hn6 := h.2.2.2.2.2.2
  have o15 : ∀ {h : qH} {kx : Nat → Nat → qH → qR} {k : Int32 → qH → qR}, q_rI (q_call q_MT d 174 [.float 15] h) kx k = k (zI (lcs 15)) h := fun {h kx k} => cI (m_ofs (by omega) (by decide))
  have go : ∀ (x5 : Int32) (hh : qH), (if ¬ (zI x = zI (lcs 15)) then q_run qm_X11_readStep (q_call q_MT d) 105 [.ref 59, .int (zI x), .int x5, l3] [.int (zI 1), .ref 59] hh else q_run qm_X11_readStep (q_call q_MT d) 105 [.ref 59, .int (zI x), .int x5, l3] [.int (zI 0), .ref 59] hh) = q_run qm_X11_readStep (q_call q_MT d) 105 [.ref 59, .int (zI x), .int x5, l3] [.int (zI k), .ref 59] hh := by
    intro x5 hh
    rcases hk with ⟨rfl, rfl⟩ | ⟨rfl, rfl⟩
    · rw [if_neg (fun q => q rfl)]
    · rw [if_pos (by decide)]
  have e1 := m_readNumber (lo := 0) (hi := w - 1) (W := W) (d := d) (by omega) h hb5 (by omega) (by omega)
  have k5 : k = 5 → False := fun q => by omega
  unfold qSs qFl
  dsimp only
  rcases q1 : numS T n 0 (w - 1) a with ⟨k', q⟩ | ⟨e, v⟩
  · rw [q1] at e1
    have r1 := numS_l han q1
    obtain ⟨I1, a1, x1, x2, x3, x4, x5⟩ := e1
    have w5 : wI (I1 59 5) := by rw [x4]; omega
    have n5 : I1 59 5 ≠ -1 := by rw [x4]; omega
    have nb := m_readNumber_b (I := I1) (A := A) (W := W) (d := d) (lo := 1) (hi := 9) (by omega) n5 w5
    have tb := m_tells_b (I := I1) (A := A) (W := W) (d := d) (k := k) (x := 0) (y := 0) (by omega) n5 w5
    have fb := fun (a b c : Value) => m_fin_b (I := I1) (A := A) (W := W) (d := d) (l1 := a) (l2 := b) (l3 := c) (by omega) n5 w5
    refine mE.bad I1 A (x1.wd rfl) fr.refl x3 x4 (by omega) ?_
    rw [mc_59, cI x5, o15, go, k_X11_readStep_105]
    simp (implicitDefEqProofs := false) (disch := omega) only [↓rI_s, ↓rV_s, ↓rI_e, ↓rV_e, zc_eq, zc_ne, zc_lt, zc_ge, zc_gt, zc_le, zlt_t, zlt_f, zle_t, zle_f, zeq_t, zeq_f, lz, zadd, zsub, zmul, zneg, zb_e0, zb_e1, boo0, boo1, ua_s, ua_n, ua_ua, up_s, u2_s, u2_f, u2_c, u2_u2, Int.natCast_add, Int.zero_add, Int.add_zero, ↓reduceIte, ne_eq, not_true_eq_false, not_false_eq_true, Int.natCast_one, ↓mc_59, ↓cI nb, ↓cV tb, fb]
  rw [q1] at e1
  have r1 := numS_r han q1
  obtain ⟨I1, x1, x2, x3, x4⟩ := e1
  have e2 := m_readNumber (lo := 1) (hi := 9) (W := W) (d := d) (by omega) x2 x3 (by omega) (by omega)
  show mE _ _ _ _ _ _ _ _ _ (bd (bd (numS T n 1 9 e) fun y => .inr (y.1, qAd k v y.2 p)) fun x => bd (sgnS T n 59 x.1) fun e => .inr (e, x.2))
  rcases q2 : numS T n 1 9 e with ⟨k', q⟩ | ⟨e', u⟩
  · rw [q2] at e2
    have r2 := numS_l (by omega) q2
    obtain ⟨I2, a2, y1, y2, y3, y4, y5⟩ := e2
    have w5 : wI (I2 59 5) := by rw [y4]; omega
    have n5 : I2 59 5 ≠ -1 := by rw [y4]; omega
    have tb := m_tells_b (I := I2) (A := A) (W := W) (d := d) (k := k) (x := v) (y := 0) (by omega) n5 w5
    have fb := fun (a b c : Value) => m_fin_b (I := I2) (A := A) (W := W) (d := d) (l1 := a) (l2 := b) (l3 := c) (by omega) n5 w5
    refine mE.bad I2 A ((x1.tr y1).wd rfl) fr.refl y3 y4 (by omega) ?_
    rw [mc_59, cI x4, o15, go, k_X11_readStep_105]
    simp (implicitDefEqProofs := false) (disch := omega) only [↓rI_s, ↓rV_s, ↓rI_e, ↓rV_e, zc_eq, zc_ne, zc_lt, zc_ge, zc_gt, zc_le, zlt_t, zlt_f, zle_t, zle_f, zeq_t, zeq_f, lz, zadd, zsub, zmul, zneg, zb_e0, zb_e1, boo0, boo1, ua_s, ua_n, ua_ua, up_s, u2_s, u2_f, u2_c, u2_u2, Int.natCast_add, Int.zero_add, Int.add_zero, ↓reduceIte, ne_eq, not_true_eq_false, not_false_eq_true, Int.natCast_one, ↓mc_59, ↓cI y5, ↓cV tb, fb]
  · rw [q2] at e2
    obtain ⟨I2, y1, y2, y3, y4⟩ := e2
    have em := m_tells (W := W) (d := d) (k := k) (x := v) (y := u) (by omega) ((hQ.k (x1.wd rfl)).k (y1.wd rfl)) hp y3 (fun q => (k5 q).elim)
    have em2 := em.2
    have h3 : mTx T n e' (u2 I2 59 36 (3 * (p.1 : Int) + 3)) (tA A p k v u) := (y2.fr (L := [74]) (fr.refl.a rfl) rfl).fi (K := [(59, 36)]) (fi.refl.f rfl) rfl
    have fin := m_fin (W := W) (d := d) (l1 := .int (zI x)) (l2 := .int (zI v)) (l3 := l3) (o := o) (by omega) h3 ((u2_f (by decide)).trans y3) ((u2_f (by decide)).trans ((y1 59 7 rfl).trans ((x1 59 7 rfl).trans h7))) em.1
    refine fin.up (((x1.tr y1).wd rfl).f rfl) (fr.refl.a rfl) (fun hh e'' => ?_)
    rw [← e'', mc_59, cI x4, o15, go, k_X11_readStep_105]
    simp (implicitDefEqProofs := false) (disch := omega) only [↓rI_s, ↓rV_s, ↓rI_e, ↓rV_e, zc_eq, zc_ne, zc_lt, zc_ge, zc_gt, zc_le, zlt_t, zlt_f, zle_t, zle_f, zeq_t, zeq_f, lz, zadd, zsub, zmul, zneg, zb_e0, zb_e1, boo0, boo1, ua_s, ua_n, ua_ua, up_s, u2_s, u2_f, u2_c, u2_u2, Int.natCast_add, Int.zero_add, Int.add_zero, ↓reduceIte, ne_eq, not_true_eq_false, not_false_eq_true, Int.natCast_one, ↓mc_59, ↓cI y4, ↓cV em2]
theorem m_stepS {lev l dm : Nat} {o : Int} (hn : n ≤ 150) (hw : 0 ≤ w ∧ w ≤ 10) (ho : 0 ≤ o ∧ o ≤ 6) (hS : o < 6 → qOK R n lev 3 (qv T n w l)) (hin : o < 6 → mRq W T n w (o + 1) dm (qv T n w l)) : mRq W T n w o (dm + 6) (qSt T n w (decide (o < 6)) (qRw T n true (qv T n w l) 151)) := by
  intro d a p I A hd h hb5 h7 h22 hQ hpa
  obtain ⟨d, rfl⟩ : ∃ e, d = e + 1 := ⟨d - 1, by omega⟩
  have han := h.2.2.2.2.2.1
  have ha0 := h.2.2.2.2.1
  have hn6 := h.2.2.2.2.2.2
  have sb := sk_b (T := T) han
  have dg := gE_b (q := qL' T) sb.2
  have ew := m_word (W := W) (d := d) (by omega) h
  have h0 : mTx T n (sk T n a) (u2 I 59 4 (sk T n a)) A := h.u (u2_f (by decide)) u2_s (by omega) sb.2
  have f0 : fi aK I (u2 I 59 4 (sk T n a)) := fi.refl.f rfl
  have b0 : u2 I 59 4 (sk T n a) 59 5 = -1 := (u2_f (by decide)).trans hb5
  have g0 : u2 I 59 4 (sk T n a) 59 7 = o := (u2_f (by decide)).trans h7
  have k0 : u2 I 59 4 (sk T n a) 59 22 = w := (u2_f (by decide)).trans h22
  have g4 : u2 I 59 4 (sk T n a) 59 4 = sk T n a := u2_s
  generalize u2 I 59 4 (sk T n a) = I0 at ew h0 f0 b0 g0 k0 g4
  have fc : fi pKm I I0 := f0.wd rfl
  have hQ0 := hQ.k f0
  have wb := wcd_b (T := T) sb.2
  have bl := fun (i : Nat) (hi : i < 19) => lcs_b ⟨i, hi⟩
  have wqi := fun (i : Nat) (hi : i < 19) => wcd_q (T := T) (n := n) (b := sk T n a) (i := i) hi sb.2
  generalize wcd T (sk T n a) (gE (qL' T) n (sk T n a)) = x at ew wb wqi
  have o17 : ∀ {h : qH} {kx : Nat → Nat → qH → qR} {k : Int32 → qH → qR}, q_rI (q_call q_MT d 174 [.float 17] h) kx k = k (zI (lcs 17)) h := fun {h kx k} => cI (m_ofs (by omega) (by decide))
  have o13 : ∀ {h : qH} {kx : Nat → Nat → qH → qR} {k : Int32 → qH → qR}, q_rI (q_call q_MT d 174 [.float 13] h) kx k = k (zI (lcs 13)) h := fun {h kx k} => cI (m_ofs (by omega) (by decide))
  have o15 : ∀ {h : qH} {kx : Nat → Nat → qH → qR} {k : Int32 → qH → qR}, q_rI (q_call q_MT d 174 [.float 15] h) kx k = k (zI (lcs 15)) h := fun {h kx k} => cI (m_ofs (by omega) (by decide))
  have o16 : ∀ {h : qH} {kx : Nat → Nat → qH → qR} {k : Int32 → qH → qR}, q_rI (q_call q_MT d 174 [.float 16] h) kx k = k (zI (lcs 16)) h := fun {h kx k} => cI (m_ofs (by omega) (by decide))
  have o9 : ∀ {h : qH} {kx : Nat → Nat → qH → qR} {k : Int32 → qH → qR}, q_rI (q_call q_MT d 174 [.float 9] h) kx k = k (zI (lcs 9)) h := fun {h kx k} => cI (m_ofs (by omega) (by decide))
  have o18 : ∀ {h : qH} {kx : Nat → Nat → qH → qR} {k : Int32 → qH → qR}, q_rI (q_call q_MT d 174 [.float 18] h) kx k = k (zI (lcs 18)) h := fun {h kx k} => cI (m_ofs (by omega) (by decide))
  -- behind the word
  have epp := m_pass (W := W) (d := d) (by omega) h0
  have h1 : mTx T n (gE (qL' T) n (sk T n a)) (u2 I0 59 4 (gE (qL' T) n (sk T n a))) A := h0.u (u2_f (by decide)) u2_s (by omega) dg.2.1
  have f1 : fi aK I0 (u2 I0 59 4 (gE (qL' T) n (sk T n a))) := fi.refl.f rfl
  have b1 : u2 I0 59 4 (gE (qL' T) n (sk T n a)) 59 5 = -1 := (u2_f (by decide)).trans b0
  have g1 : u2 I0 59 4 (gE (qL' T) n (sk T n a)) 59 7 = o := (u2_f (by decide)).trans g0
  have k1 : u2 I0 59 4 (gE (qL' T) n (sk T n a)) 59 22 = w := (u2_f (by decide)).trans k0
  generalize u2 I0 59 4 (gE (qL' T) n (sk T n a)) = I1 at epp h1 f1 b1 g1 k1
  have fd : fi pKm I I1 := fc.tr (f1.wd rfl)
  have hQ1 := hQ0.k f1
  have ne : ∀ i j : Nat, i < 19 → j < 19 → i ≠ j → (zI (lcs i) = zI (lcs j)) = False := fun i j hi hj q => by
    have : ∀ i j : Fin 19, i ≠ j → zI (lcs i.val) ≠ zI (lcs j.val) := by decide
    exact eq_false (this ⟨i, hi⟩ ⟨j, hj⟩ (fun e => q (congrArg Fin.val e)))
  have dcs := fun (i : Nat) (hi : i < 19) (wi : wq T (sk T n a) (gE (qL' T) n (sk T n a)) i) (j : Nat) (hj : j < 19) (hn : j ≠ i) => wq_x wi hi hj hn
  -- a step without numbers
  have plain : ∀ (k : Int) (i : Nat), ((i = 17 ∧ k = 3) ∨ (i = 13 ∧ k = 4)) → wq T (sk T n a) (gE (qL' T) n (sk T n a)) i → mE T n pKm [74] I A W (q_call q_MT (d + 1) 202 [.ref 59] (zM I A W)) (fun p' I' A' => mQ p' I' A' ∧ I' 59 7 = o) (bd (sgnS T n 59 (gE (qL' T) n (sk T n a))) fun e => .inr (e, qAd k 0 0 p)) := by
    intro k i hi wi
    have k5 : k = 5 → False := fun q => by omega
    have em := m_tells (W := W) (d := d) (k := k) (x := 0) (y := 0) (by omega) hQ1 (by omega) b1 (fun q => (k5 q).elim)
    have em2 := em.2
    have h3 : mTx T n (gE (qL' T) n (sk T n a)) (u2 I1 59 36 (3 * (p.1 : Int) + 3)) (tA A p k 0 0) := (h1.fr (L := [74]) (fr.refl.a rfl) rfl).fi (K := [(59, 36)]) (fi.refl.f rfl) rfl
    have fin := m_fin (W := W) (d := d) (l1 := .int (zI x)) (l2 := q_junk) (l3 := q_junk) (o := o) (by omega) h3 ((u2_f (by decide)).trans b1) ((u2_f (by decide)).trans g1) em.1
    refine fin.up (fd.f rfl) (fr.refl.a rfl) (fun hh e => ?_)
    rw [← e, cl_X11_readStep]
    rcases hi with ⟨rfl, rfl⟩ | ⟨rfl, rfl⟩
    · have z17 := zye (wqi 17 (by decide)) wi
      simp (implicitDefEqProofs := false) (disch := omega) only [↓rI_s, ↓rV_s, ↓rI_e, ↓rV_e, zc_eq, zc_ne, zc_lt, zc_ge, zc_gt, zc_le, zlt_t, zlt_f, zle_t, zle_f, zeq_t, zeq_f, lz, zadd, zsub, zmul, zneg, zb_e0, zb_e1, boo0, boo1, ua_s, ua_n, ua_ua, up_s, u2_s, u2_f, u2_c, u2_u2, Int.natCast_add, Int.zero_add, Int.add_zero, ↓reduceIte, ne_eq, not_true_eq_false, not_false_eq_true, Int.natCast_one, ↓k_X11_readStep_0, ↓mc_59, ↓cI ew, ↓o17, z17, ↓k_X11_readStep_25, ↓cV epp, ↓k_X11_readStep_45, ↓cV em2]
    · have z17 := zne (wqi 17 (by decide)) (dcs 13 (by decide) wi 17 (by decide) (by decide)) wb (bl 17 (by decide))
      have z13 := zye (wqi 13 (by decide)) wi
      simp (implicitDefEqProofs := false) (disch := omega) only [↓rI_s, ↓rV_s, ↓rI_e, ↓rV_e, zc_eq, zc_ne, zc_lt, zc_ge, zc_gt, zc_le, zlt_t, zlt_f, zle_t, zle_f, zeq_t, zeq_f, lz, zadd, zsub, zmul, zneg, zb_e0, zb_e1, boo0, boo1, ua_s, ua_n, ua_ua, up_s, u2_s, u2_f, u2_c, u2_u2, Int.natCast_add, Int.zero_add, Int.add_zero, ↓reduceIte, ne_eq, not_true_eq_false, not_false_eq_true, Int.natCast_one, ↓k_X11_readStep_0, ↓mc_59, ↓cI ew, ↓o17, z17, ↓o13, z13, ↓k_X11_readStep_25, ↓cV epp, ↓k_X11_readStep_45, ↓cV em2]
  have e0 : qSs T n (qSt T n w (decide (o < 6)) (qRw T n true (qv T n w l) 151)) a p = bd (qSt T n w (decide (o < 6)) (qRw T n true (qv T n w l) 151) a p) fun x => bd (sgnS T n 59 x.1) fun e => .inr (e, x.2) := rfl
  rw [e0]
  unfold qSt
  by_cases w15 : wq T (sk T n a) (gE (qL' T) n (sk T n a)) 15
  · rw [if_pos w15]
    have z17 := zne (wqi 17 (by decide)) (dcs 15 (by decide) w15 17 (by decide) (by decide)) wb (bl 17 (by decide))
    have z13 := zne (wqi 13 (by decide)) (dcs 15 (by decide) w15 13 (by decide) (by decide)) wb (bl 13 (by decide))
    have z15 := zye (wqi 15 (by decide)) w15
    have ex := (wqi 15 (by decide)).mpr w15
    refine (m_flickS (W := W) (d := d) (k := 0) (l1 := .int (zI x)) (l3 := q_junk) (x := x) (o := o) (by omega) hw h1 b1 g1 k1 hQ1 (by omega) (.inl ⟨ex, rfl⟩) rfl _ rfl).up fd fr.refl (fun hh e => ?_)
    rw [← e, cl_X11_readStep]
    simp (implicitDefEqProofs := false) (disch := omega) only [↓rI_s, ↓rV_s, ↓rI_e, ↓rV_e, zc_eq, zc_ne, zc_lt, zc_ge, zc_gt, zc_le, zlt_t, zlt_f, zle_t, zle_f, zeq_t, zeq_f, lz, zadd, zsub, zmul, zneg, zb_e0, zb_e1, boo0, boo1, ua_s, ua_n, ua_ua, up_s, u2_s, u2_f, u2_c, u2_u2, Int.natCast_add, Int.zero_add, Int.add_zero, ↓reduceIte, ne_eq, not_true_eq_false, not_false_eq_true, Int.natCast_one, ↓k_X11_readStep_0, ↓mc_59, ↓cI ew, ↓o17, z17, ↓o13, z13, ↓o15, z15, ↓k_X11_readStep_73, ↓cV epp, ↓zg_59_22, k1]
  rw [if_neg w15]
  by_cases w16 : wq T (sk T n a) (gE (qL' T) n (sk T n a)) 16
  · rw [if_pos w16]
    have z17 := zne (wqi 17 (by decide)) (dcs 16 (by decide) w16 17 (by decide) (by decide)) wb (bl 17 (by decide))
    have z13 := zne (wqi 13 (by decide)) (dcs 16 (by decide) w16 13 (by decide) (by decide)) wb (bl 13 (by decide))
    have z15 := zne (wqi 15 (by decide)) w15 wb (bl 15 (by decide))
    have z16 := zye (wqi 16 (by decide)) w16
    have ex := (wqi 16 (by decide)).mpr w16
    refine (m_flickS (W := W) (d := d) (k := 1) (l1 := .int (zI x)) (l3 := q_junk) (x := x) (o := o) (by omega) hw h1 b1 g1 k1 hQ1 (by omega) (.inr ⟨ex, rfl⟩) rfl _ rfl).up fd fr.refl (fun hh e => ?_)
    rw [← e, cl_X11_readStep]
    simp (implicitDefEqProofs := false) (disch := omega) only [↓rI_s, ↓rV_s, ↓rI_e, ↓rV_e, zc_eq, zc_ne, zc_lt, zc_ge, zc_gt, zc_le, zlt_t, zlt_f, zle_t, zle_f, zeq_t, zeq_f, lz, zadd, zsub, zmul, zneg, zb_e0, zb_e1, boo0, boo1, ua_s, ua_n, ua_ua, up_s, u2_s, u2_f, u2_c, u2_u2, Int.natCast_add, Int.zero_add, Int.add_zero, ↓reduceIte, ne_eq, not_true_eq_false, not_false_eq_true, Int.natCast_one, ↓k_X11_readStep_0, ↓mc_59, ↓cI ew, ↓o17, z17, ↓o13, z13, ↓o15, z15, ↓o16, z16, ↓k_X11_readStep_73, ↓cV epp, ↓zg_59_22, k1]
  rw [if_neg w16]
  have z15 := zne (wqi 15 (by decide)) w15 wb (bl 15 (by decide))
  have z16 := zne (wqi 16 (by decide)) w16 wb (bl 16 (by decide))
  by_cases w9 : wq T (sk T n a) (gE (qL' T) n (sk T n a)) 9
  · rw [if_pos w9]
    have z17 := zne (wqi 17 (by decide)) (dcs 9 (by decide) w9 17 (by decide) (by decide)) wb (bl 17 (by decide))
    have z13 := zne (wqi 13 (by decide)) (dcs 9 (by decide) w9 13 (by decide) (by decide)) wb (bl 13 (by decide))
    have z9 := zye (wqi 9 (by decide)) w9
    have e1 := m_readNumber (lo := 0) (hi := 9) (W := W) (d := d) (by omega) h1 b1 (by omega) (by omega)
    rcases q1 : numS T n 0 9 (gE (qL' T) n (sk T n a)) with ⟨k', q⟩ | ⟨e, v⟩
    · rw [q1] at e1
      have r1 := numS_l dg.2.1 q1
      obtain ⟨I2, a2, y1, y2, y3, y4, y5⟩ := e1
      have w5 : wI (I2 59 5) := by rw [y4]; omega
      have n5 : I2 59 5 ≠ -1 := by rw [y4]; omega
      have tb := m_tells_b (I := I2) (A := A) (W := W) (d := d) (k := 2) (x := 0) (y := 0) (by omega) n5 w5
      have fb := fun (a b c : Value) => m_fin_b (I := I2) (A := A) (W := W) (d := d) (l1 := a) (l2 := b) (l3 := c) (by omega) n5 w5
      refine mE.bad I2 A (fd.tr (y1.wd rfl)) fr.refl y3 y4 (by omega) ?_
      rw [cl_X11_readStep]
      simp (implicitDefEqProofs := false) (disch := omega) only [↓rI_s, ↓rV_s, ↓rI_e, ↓rV_e, zc_eq, zc_ne, zc_lt, zc_ge, zc_gt, zc_le, zlt_t, zlt_f, zle_t, zle_f, zeq_t, zeq_f, lz, zadd, zsub, zmul, zneg, zb_e0, zb_e1, boo0, boo1, ua_s, ua_n, ua_ua, up_s, u2_s, u2_f, u2_c, u2_u2, Int.natCast_add, Int.zero_add, Int.add_zero, ↓reduceIte, ne_eq, not_true_eq_false, not_false_eq_true, Int.natCast_one, ↓k_X11_readStep_0, ↓mc_59, ↓cI ew, ↓o17, z17, ↓o13, z13, ↓o15, z15, ↓o16, z16, ↓o9, z9, ↓cV epp, ↓cI y5, ↓cV tb, fb]
    · rw [q1] at e1
      obtain ⟨I2, y1, y2, y3, y4⟩ := e1
      have em := m_tells (W := W) (d := d) (k := 2) (x := v) (y := 0) (by omega) (hQ1.k (y1.wd rfl)) (by omega) y3 (fun _ => rfl)
      have em2 := em.2
      have h3 : mTx T n e (u2 I2 59 36 (3 * (p.1 : Int) + 3)) (tA A p 2 v 0) := (y2.fr (L := [74]) (fr.refl.a rfl) rfl).fi (K := [(59, 36)]) (fi.refl.f rfl) rfl
      have fin := m_fin (W := W) (d := d) (l1 := .int (zI x)) (l2 := q_junk) (l3 := q_junk) (o := o) (by omega) h3 ((u2_f (by decide)).trans y3) ((u2_f (by decide)).trans ((y1 59 7 rfl).trans g1)) em.1
      refine fin.up ((fd.tr (y1.wd rfl)).f rfl) (fr.refl.a rfl) (fun hh e' => ?_)
      rw [← e', cl_X11_readStep]
      simp (implicitDefEqProofs := false) (disch := omega) only [↓rI_s, ↓rV_s, ↓rI_e, ↓rV_e, zc_eq, zc_ne, zc_lt, zc_ge, zc_gt, zc_le, zlt_t, zlt_f, zle_t, zle_f, zeq_t, zeq_f, lz, zadd, zsub, zmul, zneg, zb_e0, zb_e1, boo0, boo1, ua_s, ua_n, ua_ua, up_s, u2_s, u2_f, u2_c, u2_u2, Int.natCast_add, Int.zero_add, Int.add_zero, ↓reduceIte, ne_eq, not_true_eq_false, not_false_eq_true, Int.natCast_one, ↓k_X11_readStep_0, ↓mc_59, ↓cI ew, ↓o17, z17, ↓o13, z13, ↓o15, z15, ↓o16, z16, ↓o9, z9, ↓cV epp, ↓cI y4, ↓cV em2]
  rw [if_neg w9]
  have z9 := zne (wqi 9 (by decide)) w9 wb (bl 9 (by decide))
  by_cases w17 : wq T (sk T n a) (gE (qL' T) n (sk T n a)) 17
  · rw [if_pos w17]
    exact plain 3 17 (.inl ⟨rfl, rfl⟩) w17
  rw [if_neg w17]
  by_cases w13 : wq T (sk T n a) (gE (qL' T) n (sk T n a)) 13
  · rw [if_pos w13]
    exact plain 4 13 (.inr ⟨rfl, rfl⟩) w13
  rw [if_neg w13]
  have z17 := zne (wqi 17 (by decide)) w17 wb (bl 17 (by decide))
  have z13 := zne (wqi 13 (by decide)) w13 wb (bl 13 (by decide))
  by_cases w18 : wq T (sk T n a) (gE (qL' T) n (sk T n a)) 18
  · rw [if_pos w18]
    have z18 := zye (wqi 18 (by decide)) w18
    have wl := wq_l w18
    have L18 : ((q_strs.getD 18 []).length : Int) = 5 := rfl
    rw [L18] at wl
    by_cases ol : o < 6
    · rw [if_pos (decide_eq_true ol)]
      have y := m_again (W := W) (d := d) (l1 := .int (zI x)) hn ⟨ho.1, ol⟩ (hS ol) (hin ol) (by omega) h0 b0 g0 k0 hQ0 (by omega) (by omega) _ rfl
      have es : qSs T n (fun _ p => qAg T n (qRw T n true (qv T n w l) 151) (sk T n a + 5) p) (sk T n a) p = bd (qAg T n (qRw T n true (qv T n w l) 151) (gE (qL' T) n (sk T n a)) p) fun x => bd (sgnS T n 59 x.1) fun e => .inr (e, x.2) := by
        rw [wl]
        rfl
      rw [es] at y
      refine y.up fc fr.refl (fun hh e => ?_)
      rw [← e, cl_X11_readStep]
      simp (implicitDefEqProofs := false) (disch := omega) only [↓rI_s, ↓rV_s, ↓rI_e, ↓rV_e, zc_eq, zc_ne, zc_lt, zc_ge, zc_gt, zc_le, zlt_t, zlt_f, zle_t, zle_f, zeq_t, zeq_f, lz, zadd, zsub, zmul, zneg, zb_e0, zb_e1, boo0, boo1, ua_s, ua_n, ua_ua, up_s, u2_s, u2_f, u2_c, u2_u2, Int.natCast_add, Int.zero_add, Int.add_zero, ↓reduceIte, ne_eq, not_true_eq_false, not_false_eq_true, Int.natCast_one, ↓k_X11_readStep_0, ↓mc_59, ↓cI ew, ↓o17, z17, ↓o13, z13, ↓o15, z15, ↓o16, z16, ↓o9, z9, ↓o18, z18]
    · rw [if_neg (fun q => ol (of_decide_eq_true q))]
      have eo := m_opens6 (A := A) (W := W) (d := d) (y := 5) (by omega) b0 g4 (by omega) (g0.trans (by omega))
      have b5 : u2 (u2 (u2 I0 59 5 (sk T n a)) 59 6 3) 59 7 7 59 5 = sk T n a := by rw [u2_f (by decide), u2_f (by decide), u2_s]
      have b6 : u2 (u2 (u2 I0 59 5 (sk T n a)) 59 6 3) 59 7 7 59 6 = 3 := by rw [u2_f (by decide), u2_s]
      have f2 : fi pKm I0 (u2 (u2 (u2 I0 59 5 (sk T n a)) 59 6 3) 59 7 7) := ((fi.refl.f rfl).f rfl).f rfl
      generalize u2 (u2 (u2 I0 59 5 (sk T n a)) 59 6 3) 59 7 7 = I2 at eo b5 b6 f2
      have w5 : wI (I2 59 5) := by rw [b5]; omega
      have n5 : I2 59 5 ≠ -1 := by rw [b5]; omega
      have nb := m_readNumber_b (I := I2) (A := A) (W := W) (d := d) (lo := 0) (hi := 30) (by omega) n5 w5
      have s91 := m_sign_b (I := I2) (A := A) (W := W) (d := d) (c := 91) (by omega) n5 w5
      have s93 := m_sign_b (I := I2) (A := A) (W := W) (d := d) (c := 93) (by omega) n5 w5
      have tb := m_tells_b (I := I2) (A := A) (W := W) (d := d) (k := 5) (x := 0) (y := 0) (by omega) n5 w5
      have f3 := m_fine (I := I2) (A := A) (W := W) (d := d) (by omega) w5
      rw [zb_f n5] at f3
      have n6 : u2 I2 59 7 (I2 59 7 - 1) 59 5 ≠ -1 := by rw [u2_f (by decide)]; exact n5
      have w6 : wI (u2 I2 59 7 (I2 59 7 - 1) 59 5) := by rw [u2_f (by decide)]; exact w5
      have f4 := m_fine (I := u2 I2 59 7 (I2 59 7 - 1)) (A := A) (W := W) (d := d) (by omega) w6
      rw [zb_f n6] at f4
      have fb := fun (a b c : Value) => m_fin_b (I := u2 I2 59 7 (I2 59 7 - 1)) (A := A) (W := W) (d := d) (l1 := a) (l2 := b) (l3 := c) (by omega) n6 w6
      refine mE.bad (u2 I2 59 7 (I2 59 7 - 1)) A ((fc.tr f2).f rfl) fr.refl ((u2_f (by decide)).trans b6) ((u2_f (by decide)).trans b5) (by omega) ?_
      rw [cl_X11_readStep]
      simp (implicitDefEqProofs := false) (disch := omega) only [↓rI_s, ↓rV_s, ↓rI_e, ↓rV_e, zc_eq, zc_ne, zc_lt, zc_ge, zc_gt, zc_le, zlt_t, zlt_f, zle_t, zle_f, zeq_t, zeq_f, lz, zadd, zsub, zmul, zneg, zb_e0, zb_e1, boo0, boo1, ua_s, ua_n, ua_ua, up_s, u2_s, u2_f, u2_c, u2_u2, Int.natCast_add, Int.zero_add, Int.add_zero, ↓reduceIte, ne_eq, not_true_eq_false, not_false_eq_true, Int.natCast_one, ↓k_X11_readStep_0, ↓mc_59, ↓cI ew, ↓o17, z17, ↓o13, z13, ↓o15, z15, ↓o16, z16, ↓o9, z9, ↓o18, z18, ↓cV eo, ↓cI nb, ↓cV s91, ↓zg_59_36, ↓cV tb]
      rw [k_X11_readStep_190]
      simp (implicitDefEqProofs := false) (disch := omega) only [↓rI_s, ↓rV_s, ↓rI_e, ↓rV_e, zc_eq, zc_ne, zc_lt, zc_ge, zc_gt, zc_le, zlt_t, zlt_f, zle_t, zle_f, zeq_t, zeq_f, lz, zadd, zsub, zmul, zneg, zb_e0, zb_e1, boo0, boo1, ua_s, ua_n, ua_ua, up_s, u2_s, u2_f, u2_c, u2_u2, Int.natCast_add, Int.zero_add, Int.add_zero, ↓reduceIte, ne_eq, not_true_eq_false, not_false_eq_true, Int.natCast_one, ↓mc_59, ↓cI f3, ↓k_X11_readStep_213, ↓cV s93, ↓zg_59_7, ↓zp_59_7, ↓cI f4, ↓k_X11_readStep_248, fb]
  rw [if_neg w18]
  have z18 := zne (wqi 18 (by decide)) w18 wb (bl 18 (by decide))
  have exw := m_wrong (I := I0) (A := A) (W := W) (d := d) (k := 1) (p := sk T n a) (by omega) b0
  have b5 : u2 (u2 I0 59 5 (sk T n a)) 59 6 1 59 5 = sk T n a := by rw [u2_f (by decide), u2_s]
  have fb := fun (v1 v2 v3 : Value) => m_fin_b (I := u2 (u2 I0 59 5 (sk T n a)) 59 6 1) (A := A) (W := W) (d := d) (l1 := v1) (l2 := v2) (l3 := v3) (by omega) (by rw [b5]; omega) (by rw [b5]; omega)
  refine mE.bad (u2 (u2 I0 59 5 (sk T n a)) 59 6 1) A ((fc.f rfl).f rfl) fr.refl u2_s b5 (by omega) ?_
  rw [cl_X11_readStep]
  simp (implicitDefEqProofs := false) (disch := omega) only [↓rI_s, ↓rV_s, ↓rI_e, ↓rV_e, zc_eq, zc_ne, zc_lt, zc_ge, zc_gt, zc_le, zlt_t, zlt_f, zle_t, zle_f, zeq_t, zeq_f, lz, zadd, zsub, zmul, zneg, zb_e0, zb_e1, boo0, boo1, ua_s, ua_n, ua_ua, up_s, u2_s, u2_f, u2_c, u2_u2, Int.natCast_add, Int.zero_add, Int.add_zero, ↓reduceIte, ne_eq, not_true_eq_false, not_false_eq_true, Int.natCast_one, ↓k_X11_readStep_0, ↓mc_59, ↓cI ew, ↓o17, z17, ↓o13, z13, ↓o15, z15, ↓o16, z16, ↓o9, z9, ↓o18, z18, ↓zg_59_4, g4, ↓cV exw, fb]
theorem m_qv (hn : n ≤ 150) (hw : w = rW R) (hw10 : 0 ≤ w ∧ w ≤ 10) : ∀ l : Nat, l ≤ 6 → mRq W T n w (6 - (l : Int)) (6 + 6 * l) (qv T n w l)
  | 0, _ => by
    have := m_stepS (W := W) (T := T) (n := n) (w := w) (R := R) (lev := 0) (l := 0) (o := 6) (dm := 0) hn hw10 (by omega) (fun h => absurd h (by decide)) (fun h => absurd h (by decide))
    intro d a p I A hd h hb5 h7 h22 hQ hpa
    have y := this d a p I A hd h hb5 h7 h22 hQ hpa
    have e : qSs T n (qv T n w 0) a p = qSs T n (qSt T n w (decide ((6 : Int) < 6)) (qRw T n true (qv T n w 0) 151)) a p := by
      refine qSs_c ?_
      show qSt T n w false (fun _ _ => .inl (0, 0)) a p = qSt T n w false (qRw T n true (qv T n w 0) 151) a p
      unfold qSt
      rw [if_neg (show ¬ (false = true) by decide), if_neg (show ¬ (false = true) by decide)]
    rw [e]
    exact y
  | l + 1, hl => by
    have ih := m_qv hn hw hw10 l (by omega)
    have k := qv_ok (T := T) (R := R) hn hw l
    have := m_stepS (W := W) (T := T) (n := n) (w := w) (R := R) (lev := l) (l := l) (o := 6 - ((l + 1 : Nat) : Int)) (dm := 6 + 6 * l) hn hw10 (by omega) (fun _ => k) (fun _ => by
      rw [show 6 - ((l + 1 : Nat) : Int) + 1 = 6 - (l : Int) by omega]
      exact ih)
    rw [decide_eq_true (show 6 - ((l + 1 : Nat) : Int) < 6 by omega)] at this
    rw [show 6 + 6 * (l + 1) = 6 + 6 * l + 6 by omega]
    exact this
end PO
