--DEPS ab.qt
/-- a call of both whose answers are held against each other at once -/
def DP (d c n : Nat) (f : Nat → Int32) (I : Nat → Nat → Int) (A : Nat → Int → Int) (W : qWt) (nC : Nat) (aC : List Value) (nM : Nat) (aM : List Value) : Prop := ∃ I1 A1 W1 I2 A2 W2 b, q_call q_MT d nC aC (zM I A W) = some (.inl (some (.int (zI b))), zM I1 A1 W1) ∧ W1.2.2.2.1 = n ∧ W1.2.2.2.2.1 = f ∧ q_call q_MT d nM aM (zM I1 A1 W1) = some (.inl (some (.int (zI b))), zM I2 A2 W2) ∧ Ivs (c + 1) n f I2 A2 W2
section QD
variable {R : zR} {F : zF} {I I1 I2 : Nat → Nat → Int} {A A1 A2 : Nat → Int → Int} {W W1 : qWt} {T tl s : Int → Int} {l : zL} {r : zG} {c n d : Nat} {f : Nat → Int32}
theorem Iw.z (h : Iw R F l r T tl I A W) : Iw R F l r T tl (u2 I 59 0 0) A W := by
  have := h.q (E := []) (I' := u2 I 59 0 0) (A' := A) (fi.refl.f rfl) fr.refl
  rwa [axs_0] at this
theorem DP_fault (hd : 20 ≤ d) (hI : Ivs c n f I A W) : DP d c n f I A W 118 [.ref 2] 181 [.ref 59] := by
  obtain ⟨R, F, l, r, T, tl, hw⟩ := hI.1
  have e4 : I 3 7 = I 59 8 := hw.2.2.2.1
  have hM := M_fault (d := d) (I := I) (A := A) (W := W) (by omega)
  rw [← e4] at hM
  exact ⟨I, A, W, _, A, W, _, C_fault (by omega), hI.2.1, hI.2.2.1, hM, Ivs.up ⟨⟨R, F, l, r, T, tl, hw.z⟩, hI.2⟩⟩
theorem DP_status {a1 : Int} (hd : 20 ≤ d) (hI : Ivs c n f I A W) (w1 : wI a1) : DP d c n f I A W 147 [.ref 2, .int (zI a1)] 279 [.ref 59, .int (zI a1)] := by
  obtain ⟨R, F, l, r, T, tl, hw⟩ := hI.1
  have e7 : I 2 16 = A 60 0 ∧ I 2 17 = A 60 1 := hw.2.2.2.2.2.2.1
  have hM := M_status (d := d) (I := I) (A := A) (W := W) (by omega) w1
  rw [← e7.1, ← e7.2] at hM
  exact ⟨I, A, W, _, A, W, _, C_status (by omega) w1, hI.2.1, hI.2.2.1, hM, Ivs.up ⟨⟨R, F, l, r, T, tl, hw.z⟩, hI.2⟩⟩
theorem DP_count {a1 : Int} (hd : 20 ≤ d) (hI : Ivs c n f I A W) (w1 : wI a1) : DP d c n f I A W 148 [.ref 2, .int (zI a1)] 280 [.ref 59, .int (zI a1)] := by
  obtain ⟨R, F, l, r, T, tl, hw⟩ := hI.1
  have e3 : I 3 1 = I 59 2 := hw.2.2.1.2.2
  obtain ⟨h81, h82, h83, h84⟩ := hw.2.2.2.2.2.2.2.1
  obtain ⟨h91, h92, h93, h94, h95⟩ := hw.2.2.2.2.2.2.2.2
  have hM := M_count (d := d) (I := I) (A := A) (W := W) (by omega) w1
  rw [← e3, h82, h92, ← h91] at hM
  exact ⟨I, A, W, _, A, W, _, C_count (by omega) w1 h81, hI.2.1, hI.2.2.1, hM, Ivs.up ⟨⟨R, F, l, r, T, tl, hw.z⟩, hI.2⟩⟩
theorem DP_match (hd : 20 ≤ d) (hI : Ivs c n f I A W) : DP d c n f I A W 133 [.ref 2] 253 [.ref 59] := by
  obtain ⟨R, F, l, r, T, tl, hw⟩ := hI.1
  obtain ⟨-, i2, i3, i4, i5⟩ := hI
  rcases C_match (W := W) (d := d) (by omega) (hw.c rfl) with ⟨-, I1, A1, f1, g1, e⟩ | ⟨q, -⟩ | ⟨q, -⟩
  · rcases M_match (W := W) (d := d) (by omega) ((hw.m rfl).k f1 g1 rfl rfl) with ⟨-, I2, A2, E, f2, g2, z0, hl, e2⟩ | ⟨q, -⟩ | ⟨q, -⟩
    · refine ⟨I1, A1, W, I2, A2, axs W E, _, e, i2, i3, e2, ⟨⟨R, F, l, r, T, tl, hw.q ((f1.wd rfl).tr f2) ((g1.wd rfl).tr g2)⟩, i2, i3, ?_, ?_⟩⟩
      · show (dyn W ++ E).length ≤ _
        rw [List.length_append]
        rcases hl with rfl | ⟨g, rfl⟩
        · show _ + 0 ≤ _; omega
        · show _ + 1 ≤ _; omega
      · show zz (dyn W ++ E) ≤ _
        rw [zz_ap]
        rcases hl with rfl | ⟨g, rfl⟩
        · show _ + 0 ≤ _; omega
        · show _ + 40 ≤ _; omega
    · cases q
    · cases q
  · cases q
  · cases q
theorem DP_undo (hd : 20 ≤ d) (hI : Ivs c n f I A W) : DP d c n f I A W 144 [.ref 2] 225 [.ref 59] := by
  obtain ⟨R, F, l, r, T, tl, hw⟩ := hI.1
  have hI0 := hI
  obtain ⟨-, i2, i3, i4, i5⟩ := hI
  obtain ⟨h81, h82, h83, h84⟩ := hw.2.2.2.2.2.2.2.1
  have hC := C_undo (d := d) (W := W) (by omega) hw.1.1 h81
  cases l with
  | nil =>
    have hM := M_undo (d := d) (W := W) (by omega) h82 h83 h84
    exact ⟨I, A, W, _, A, W, _, hC, i2, i3, hM, Ivs.up ⟨⟨R, F, [], r, T, tl, hw.z⟩, hI0.2⟩⟩
  | cons s l =>
    obtain ⟨I1, A1, v, f1, g1, e1, e2, e3, e4, e5⟩ := hC
    have hM := M_undo (d := d) (I := I1) (A := A1) (W := (v, W.2)) (l := s :: l) (by omega) ((f1 59 37 rfl).trans h82) h83 (by rw [g1 78 rfl]; exact h84)
    obtain ⟨g, z1, z2⟩ := hM
    have ff : fi [(24, 7), (24, 8), (2, 15), (59, 0), (59, 37), (59, 38)] I (u2 (u2 (u2 I1 59 0 0) 59 37 l.length) 59 38 0) := (((f1.wd rfl).f rfl).f rfl).f rfl
    have gg : fr [25, 26, 27, 28, 29, 76] A (ua A1 76 g) := (g1.wd rfl).a rfl
    have gg2 : fr [76] A1 (ua A1 76 g) := fr.refl.a rfl
    have ff2 : fi [(59, 0), (59, 37), (59, 38)] I1 (u2 (u2 (u2 I1 59 0 0) 59 37 l.length) 59 38 0) := ((fi.refl.f rfl).f rfl).f rfl
    refine ⟨I1, A1, (v, W.2), _, _, (v, W.2), _, e5, i2, i3, z2, ⟨⟨R, F, l, r, T, tl, ⟨⟨(hw.1.1.fi ff rfl).fr gg rfl, ?_, ?_, (hw.1.2.2.2.fi ff rfl).fr gg rfl⟩, hw.2.1.t ff gg rfl rfl, hw.2.2.1.t ff gg rfl rfl, hw.2.2.2.1.t ff rfl, hw.2.2.2.2.1.t ff gg rfl rfl, ((ff2 2 15 rfl).trans e2).trans u2_s.symm, hw.2.2.2.2.2.2.1.t ff gg rfl rfl, ⟨e4, (u2_f (by decide)).trans u2_s, ?_, ?_⟩, hw.2.2.2.2.2.2.2.2.t ff gg rfl rfl ⟨[], rfl, (List.append_nil _).symm⟩⟩⟩, i2, i3, show (dyn W).length ≤ _ by omega, show zz (dyn W) ≤ _ by omega⟩⟩
    · rw [ua_s]
      refine bR.cg ?_ (sE.of hw.1.1.1 z1)
      rw [gg2 25 rfl, gg2 26 rfl, gg2 27 rfl, gg2 28 rfl, gg2 29 rfl, ff2 24 7 rfl, ff2 24 8 rfl]
      exact e1
    · rw [ua_s]; exact e3.cg (sE.of hw.1.1.1 z1)
    · rw [List.length_cons] at h83; omega
    · rw [gg 78 rfl]; exact h84.2
theorem DP_restore (hd : 20 ≤ d) (hI : Ivs c n f I A W) : DP d c n f I A W 146 [.ref 2] 278 [.ref 59] := by
  obtain ⟨R, F, l, r, T, tl, hw⟩ := hI.1
  have hI0 := hI
  obtain ⟨-, i2, i3, i4, i5⟩ := hI
  obtain ⟨h91, h92, h93, h94, h95⟩ := hw.2.2.2.2.2.2.2.2
  have hC := C_restore (d := d) (W := W) (by omega) hw.1.1 h91 h93 h94
  rcases r with _ | ⟨⟨s, l'⟩, r⟩
  · have hM := M_restore (d := d) (W := W) (by omega) h92 h93 h95
    exact ⟨I, A, W, _, A, W, _, hC, i2, i3, hM, Ivs.up ⟨⟨R, F, l, [], T, tl, hw.z⟩, hI0.2⟩⟩
  · obtain ⟨I1, A1, v, f1, g1, e1, e2, e6, e3, e4, e5⟩ := hC
    have hM := M_restore (d := d) (I := I1) (A := A1) (W := (v, W.2)) (r := (s, l') :: r) (by omega) ((f1 59 61 rfl).trans h92) h93 (by rw [g1 88 rfl]; exact h95)
    obtain ⟨g, p, z1, z4, z5, z6, z2⟩ := hM
    have ff : fi [(24, 7), (24, 8), (2, 15), (2, 14), (59, 0), (59, 61), (59, 37), (59, 38)] I (u2 (u2 (u2 (u2 I1 59 0 0) 59 61 r.length) 59 37 l'.length) 59 38 0) := ((((f1.wd rfl).f rfl).f rfl).f rfl).f rfl
    have gg : fr [25, 26, 27, 28, 29, 76, 78] A (ua (ua A1 76 g) 78 p) := ((g1.wd rfl).a rfl).a rfl
    have gg2 : fr [76, 78] A1 (ua (ua A1 76 g) 78 p) := (fr.refl.a rfl).a rfl
    have ff2 : fi [(59, 0), (59, 61), (59, 37), (59, 38)] I1 (u2 (u2 (u2 (u2 I1 59 0 0) 59 61 r.length) 59 37 l'.length) 59 38 0) := (((fi.refl.f rfl).f rfl).f rfl).f rfl
    have e76 : ua (ua A1 76 g) 78 p 76 = g := by rw [ua_n (by decide), ua_s]
    refine ⟨I1, A1, (v, W.2), _, _, (v, W.2), _, e5, i2, i3, z2, ⟨⟨R, F, l', r, T, tl, ⟨⟨(hw.1.1.fi ff rfl).fr gg rfl, ?_, ?_, (hw.1.2.2.2.fi ff rfl).fr gg rfl⟩, hw.2.1.t ff gg rfl rfl, hw.2.2.1.t ff gg rfl rfl, hw.2.2.2.1.t ff rfl, hw.2.2.2.2.1.t ff gg rfl rfl, ((ff2 2 15 rfl).trans e2).trans u2_s.symm, hw.2.2.2.2.2.2.1.t ff gg rfl rfl, ⟨e4, (u2_f (by decide)).trans u2_s, z5, by rw [ua_s]; exact z4⟩, ⟨(ff2 2 14 rfl).trans e6, (u2_f (by decide)).trans ((u2_f (by decide)).trans u2_s), ?_, h94.2, ?_⟩⟩⟩, i2, i3, show (dyn W).length ≤ _ by omega, show zz (dyn W) ≤ _ by omega⟩⟩
    · rw [e76]
      refine bR.cg ?_ (sE.of hw.1.1.1 z1)
      rw [gg2 25 rfl, gg2 26 rfl, gg2 27 rfl, gg2 28 rfl, gg2 29 rfl, ff2 24 7 rfl, ff2 24 8 rfl]
      exact e1
    · rw [e76]; exact e3.cg (sE.of hw.1.1.1 z1)
    · rw [List.length_cons] at h93; omega
    · rw [gg 88 rfl]; exact h95.2.2.2.2
theorem DP_image (hd : 20 ≤ d) (hI : Ivs c n f I A W) : DP d c n f I A W 145 [.ref 2] 277 [.ref 59] := by
  obtain ⟨R, F, l, r, T, tl, hw⟩ := hI.1
  have hI0 := hI
  obtain ⟨-, i2, i3, i4, i5⟩ := hI
  obtain ⟨h81, h82, h83, h84⟩ := hw.2.2.2.2.2.2.2.1
  obtain ⟨h91, h92, h93, h94, h95⟩ := hw.2.2.2.2.2.2.2.2
  rcases C_image (d := d) (W := W) (by omega) hw.1.2.1 hw.1.1 hw.1.2.2.1 h81 h91 h93 h94 with ⟨q, e⟩ | ⟨q, W', w1, w2, w3, w4, ⟨x, y, w5⟩, w6, e⟩
  · rcases M_image (d := d) (W := W) (by omega) h82 h83 h84 (fun _ _ _ => rfl) h92 h93 h95 with ⟨-, e2⟩ | ⟨q2, -⟩
    · exact ⟨I, A, W, _, A, W, _, e, i2, i3, e2, Ivs.up ⟨⟨R, F, l, r, T, tl, hw.z⟩, hI0.2⟩⟩
    · omega
  · rcases M_image (d := d) (I := u2 I 2 14 (r.length + 1)) (A := A) (W := W') (s := A 76) (l := l) (r := r) (by omega) h82 h83 h84 (fun _ _ _ => rfl) h92 h93 h95 with ⟨q2, -⟩ | ⟨-, g, z1, e2⟩
    · omega
    · have ff : fi [(2, 14), (59, 0), (59, 61)] I (u2 (u2 (u2 I 2 14 (r.length + 1)) 59 0 0) 59 61 (r.length + 1)) := ((fi.refl.f rfl).f rfl).f rfl
      have gg : fr [88] A (ua A 88 g) := fr.refl.a rfl
      refine ⟨_, A, W', _, _, W', _, e, w3.trans i2, w4.trans i3, e2, ⟨⟨R, F, l, (A 76, l) :: r, T, tl, ⟨hw.1.t ff gg rfl rfl, hw.2.1.t ff gg rfl rfl, hw.2.2.1.t ff gg rfl rfl, hw.2.2.2.1.t ff rfl, hw.2.2.2.2.1.t ff gg rfl rfl, hw.2.2.2.2.2.1.t ff rfl, hw.2.2.2.2.2.2.1.t ff gg rfl rfl, hw.2.2.2.2.2.2.2.1.t ff gg rfl rfl ⟨_, w1, w5⟩, ⟨?_, ?_, ?_, w6, ?_⟩⟩⟩, w3.trans i2, w4.trans i3, ?_, ?_⟩⟩
      · rw [List.length_cons, Int.natCast_add]; rfl
      · rw [List.length_cons, Int.natCast_add]; exact u2_s
      · rw [List.length_cons]; omega
      · rw [ua_s]; exact z1
      · rw [w5, List.length_append]
        show _ + 2 ≤ _; omega
      · rw [w5, zz_ap]
        show _ + 40 ≤ _; omega
theorem fdB_b {a b c e f j : Int} : 0 ≤ fdB a b c e f j ∧ fdB a b c e f j ≤ 255 := and255_b _
theorem DP_feed {a1 a2 a3 a4 a5 : Int} (hd : 20 ≤ d) (hI : Ivs c n f I A W) : DP d c n f I A W 113 [.ref 2, .int (zI a1), .int (zI a2), .int (zI a3), .int (zI a4), .int (zI a5)] 167 [.ref 59, .int (zI a1), .int (zI a2), .int (zI a3), .int (zI a4), .int (zI a5)] := by
  obtain ⟨R, F, l, r, T, tl, hw⟩ := hI.1
  have hI0 := hI
  obtain ⟨-, i2, i3, i4, i5⟩ := hI
  obtain ⟨h31, h32, h33⟩ := hw.2.2.1
  have hb := h31.2.2
  have hC := C_feed (a := a1) (b := a2) (c := a3) (e := a4) (f := a5) (d := d) (A := A) (W := W) (by omega) hb
  by_cases q : I 3 1 + 20 ≤ 600
  · rw [if_pos q] at hC
    obtain ⟨g, z1, z2, hM⟩ := M_feed (a := a1) (b := a2) (c := a3) (e := a4) (f := a5) (d := d) (I := u2 I 3 1 (I 3 1 + 20)) (A := ua A 4 (fdC (A 4) (I 3 1) a1 a2 a3 a4 a5)) (W := W) (by omega) (show 0 ≤ I 59 2 ∧ I 59 2 ≤ 600 by omega)
    have e2 : u2 I 3 1 (I 3 1 + 20) 59 2 = I 3 1 := h33.symm
    have e61 : ua A 4 (fdC (A 4) (I 3 1) a1 a2 a3 a4 a5) 61 = A 61 := rfl
    rw [e2, e61] at z1
    rw [e2] at z2 hM
    rw [if_pos q] at hM
    have ff : fi [(3, 1), (59, 0), (59, 2)] I (u2 (u2 (u2 I 3 1 (I 3 1 + 20)) 59 0 0) 59 2 (I 3 1 + 20)) := ((fi.refl.f rfl).f rfl).f rfl
    have gg : fr [4, 61] A (ua (ua A 4 (fdC (A 4) (I 3 1) a1 a2 a3 a4 a5)) 61 g) := (fr.refl.a rfl).a rfl
    refine ⟨_, _, W, _, _, W, _, hC, i2, i3, hM, Ivs.up ⟨⟨R, F, l, r, fun j => if I 3 1 ≤ j ∧ j < I 3 1 + 20 then fdB a1 a2 a3 a4 a5 (j - I 3 1) else T j, tl, ⟨hw.1.t ff gg rfl rfl, hw.2.1.t ff gg rfl rfl, ⟨⟨fun j => ?_, fun j j0 j1 => ?_, ?_⟩, ⟨fun j => ?_, fun j j0 j1 => ?_, ?_⟩, rfl⟩, hw.2.2.2.1.t ff rfl, hw.2.2.2.2.1.t ff gg rfl rfl, hw.2.2.2.2.2.1.t ff rfl, hw.2.2.2.2.2.2.1.t ff gg rfl rfl, hw.2.2.2.2.2.2.2.1.t ff gg rfl rfl ⟨[], rfl, (List.append_nil _).symm⟩, hw.2.2.2.2.2.2.2.2.t ff gg rfl rfl ⟨[], rfl, (List.append_nil _).symm⟩⟩⟩, hI0.2⟩⟩
    · dsimp only
      split
      · exact fdB_b
      · exact h31.1 j
    · have j1' : j < I 3 1 + 20 := j1
      show fdC (A 4) (I 3 1) a1 a2 a3 a4 a5 j = sg (if I 3 1 ≤ j ∧ j < I 3 1 + 20 then fdB a1 a2 a3 a4 a5 (j - I 3 1) else T j)
      by_cases p : I 3 1 ≤ j
      · rw [if_pos ⟨p, j1'⟩]
        have := fdC_i (g := A 4) (n := I 3 1) (a := a1) (b := a2) (c := a3) (e := a4) (f := a5) (j := j - I 3 1) (by omega) (by omega)
        rwa [show I 3 1 + (j - I 3 1) = j by omega] at this
      · rw [if_neg (fun w => p w.1), fdC_o (by omega)]
        exact h31.2.1 j j0 (by omega)
    · show 0 ≤ I 3 1 + 20 ∧ I 3 1 + 20 ≤ 600
      omega
    · dsimp only
      split
      · exact fdB_b
      · exact h31.1 j
    · have j1' : j < I 3 1 + 20 := j1
      show g j = (if I 3 1 ≤ j ∧ j < I 3 1 + 20 then fdB a1 a2 a3 a4 a5 (j - I 3 1) else T j)
      by_cases p : I 3 1 ≤ j
      · rw [if_pos ⟨p, j1'⟩]
        have := z2 (j - I 3 1) (by omega) (by omega) q
        rwa [show I 3 1 + (j - I 3 1) = j by omega] at this
      · rw [if_neg (fun w => p w.1), z1 j (by omega)]
        exact h32.2.1 j j0 (by omega)
    · show 0 ≤ I 3 1 + 20 ∧ I 3 1 + 20 ≤ 600
      omega
  · rw [if_neg q] at hC
    obtain ⟨g, z1, z2, hM⟩ := M_feed (a := a1) (b := a2) (c := a3) (e := a4) (f := a5) (d := d) (I := I) (A := A) (W := W) (by omega) (show 0 ≤ I 59 2 ∧ I 59 2 ≤ 600 by omega)
    rw [if_neg (by omega)] at hM
    exact ⟨I, A, W, _, A, W, _, hC, i2, i3, hM, Ivs.up ⟨⟨R, F, l, r, T, tl, hw.z⟩, hI0.2⟩⟩
end QD
