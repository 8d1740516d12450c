--DEPS a7.kL
/-! What class and reference have in common between two calls of the law. -/
theorem nk {α : Type} [BEq α] [LawfulBEq α] {P K : List α} (h : P.all (fun x => !K.contains x) = true) {x : α} (hx : P.contains x = true) : K.contains x = false := by
  have := List.all_eq_true.mp h x (List.contains_iff_mem.mp hx)
  cases e : K.contains x
  · rfl
  · rw [e] at this; cases this
theorem sN.cg {R : zR} {s t : Int → Int} (h : sN R s) (e : sE R s t) : sN R t := by
  obtain ⟨⟨a1, a2, a3, a4, a5⟩, b1, b2, b3, b4⟩ := h
  obtain ⟨e1, e2, e3, e4⟩ := e
  have hm := fun x => many_cg (R := R) (s := t) (t := s) (fun w w0 w1 => (e1 w w0 w1).1) x
  refine ⟨⟨fun w w0 w1 => ?_, fun w w0 w1 hp => ?_, fun x u x0 u0 hu => ?_, fun v w v0 v1 w0 w1 hp q1 q2 => ?_, fun k k0 k1 => ?_⟩, ?_⟩
  · rw [(e1 w w0 w1).1, (e1 w w0 w1).2.1, (e1 w w0 w1).2.2.2]; exact a1 w w0 w1
  · rw [(e1 w w0 w1).1] at hp ⊢
    rw [(e1 w w0 w1).2.1, hm]; exact a2 w w0 w1 hp
  · rw [hm] at hu
    obtain ⟨w, w0, w1, w2, w3⟩ := a3 x u x0 u0 hu
    exact ⟨w, w0, w1, (e1 w w0 w1).1.trans w2, (e1 w w0 w1).2.1.trans w3⟩
  · rw [(e1 v v0 v1).1] at hp q1
    rw [(e1 w w0 w1).1] at q1
    rw [(e1 v v0 v1).2.1, (e1 w w0 w1).2.1] at q2
    exact a4 v w v0 v1 w0 w1 hp q1 q2
  · rw [e2 k k0 k1]; exact a5 k k0 k1
  · rw [e3, e4]; exact ⟨b1, b2, b3, b4⟩
theorem bR.cg {R : zR} {s t cl un sh co he : Int → Int} {dy dm : Int} (h : bR R s cl un sh co he dy dm) (e : sE R s t) : bR R t cl un sh co he dy dm := by
  obtain ⟨b1, b2, b3, b4, b5, b6, b7⟩ := h
  obtain ⟨e1, e2, e3, e4⟩ := e
  have hm := fun x => many_cg (R := R) (s := t) (t := s) (fun w w0 w1 => (e1 w w0 w1).1) x
  refine ⟨fun w w0 w1 => ?_, fun w w0 w1 => ?_, fun w w0 w1 => ?_, fun k k0 k1 => ?_, fun x x0 x1 => ?_, ?_, ?_⟩
  · rw [(e1 w w0 w1).1, (e1 w w0 w1).2.2.2]; exact b1 w w0 w1
  · rw [(e1 w w0 w1).2.1]; exact b2 w w0 w1
  · rw [(e1 w w0 w1).2.2.1]; exact b3 w w0 w1
  · rw [e2 k k0 k1]; exact b4 k k0 k1
  · rw [hm]; exact b5 x x0 x1
  · rw [e3]; exact b6
  · rw [e4]; exact b7
theorem cX.cg {R : zR} {F : zF} {s t : Int → Int} {I : Nat → Nat → Int} {A : Nat → Int → Int} (h : cX R F s I A) (e : sE R s t) : cX R F t I A := ⟨h.1, h.2.1.cg e, h.2.2.1.cg e, h.2.2.2⟩
theorem sE.of {R : zR} {s t : Int → Int} (hR : wR R) (h : ∀ k : Int, 0 ≤ k → k < 47 → t k = s k) : sE R s t := by
  have h5 := hR.1
  have h10 := hR.2.1
  exact ⟨fun w w0 w1 => ⟨h w w0 (by omega), h _ (by omega) (by omega), h _ (by omega) (by omega), h _ (by omega) (by omega)⟩, fun k k0 k1 => h _ (by omega) (by omega), h _ (by omega) (by omega), h _ (by omega) (by omega)⟩
/-! the parts -/
def j1 (R : zR) (F : zF) (I : Nat → Nat → Int) (A : Nat → Int → Int) : Prop := cX R F (A 76) I A
def j2 (R : zR) (F : zF) (I : Nat → Nat → Int) (A : Nat → Int → Int) : Prop := mR R I A ∧ mL F I A
def j3 (T : Int → Int) (I : Nat → Nat → Int) (A : Nat → Int → Int) : Prop := tpC T I A ∧ tpM T I A ∧ I 3 1 = I 59 2
def j4 (I : Nat → Nat → Int) : Prop := I 3 7 = I 59 8
def j5 (tl : Int → Int) (I : Nat → Nat → Int) (A : Nat → Int → Int) : Prop := (∀ p : Int, 1 ≤ p → p ≤ 9 → A 37 p = tl p) ∧ mT tl I A ∧ tB9 tl ∧ I 36 6 = I 59 48
def j6 (I : Nat → Nat → Int) : Prop := I 2 15 = I 59 38
def j7 (I : Nat → Nat → Int) (A : Nat → Int → Int) : Prop := I 2 16 = A 60 0 ∧ I 2 17 = A 60 1
def j8 (R : zR) (l : zL) (I : Nat → Nat → Int) (A : Nat → Int → Int) (W : qWt) : Prop := kC R (dyn W) W.1 l ∧ I 59 37 = l.length ∧ l.length ≤ 16 ∧ mC (A 78) l
def j9 (R : zR) (r : zG) (I : Nat → Nat → Int) (A : Nat → Int → Int) (W : qWt) : Prop := I 2 14 = r.length ∧ I 59 61 = r.length ∧ r.length ≤ 3 ∧ kG R (dyn W) W.2.1 r ∧ mG (A 88) r
section JT
variable {R : zR} {F : zF} {I I' : Nat → Nat → Int} {A A' : Nat → Int → Int} {W W' : qWt} {T tl : Int → Int} {l : zL} {r : zG} {K : List (Nat × Nat)} {L : List Nat}
abbrev jk (P K : List (Nat × Nat)) : Bool := P.all (fun x => !K.contains x)
abbrev jl (P L : List Nat) : Bool := P.all (fun x => !L.contains x)
theorem j1.t (h : j1 R F I A) (f : fi K I I') (g : fr L A A') (hk : jk [(5, 0), (5, 1), (5, 2), (5, 3), (5, 4), (24, 7), (24, 8), (19, 4)] K = true) (hl : jl [7, 8, 10, 11, 25, 26, 27, 28, 29, 20, 76] L = true) : j1 R F I' A' := by
  unfold j1 cX cR cL
  rw [f 5 0 (nk hk rfl), f 5 1 (nk hk rfl), f 5 2 (nk hk rfl), f 5 3 (nk hk rfl), f 5 4 (nk hk rfl), f 24 7 (nk hk rfl), f 24 8 (nk hk rfl), f 19 4 (nk hk rfl), g 7 (nk hl rfl), g 8 (nk hl rfl), g 10 (nk hl rfl), g 11 (nk hl rfl), g 25 (nk hl rfl), g 26 (nk hl rfl), g 27 (nk hl rfl), g 28 (nk hl rfl), g 29 (nk hl rfl), g 20 (nk hl rfl), g 76 (nk hl rfl)]
  exact h
theorem j2.t (h : j2 R F I A) (f : fi K I I') (g : fr L A A') (hk : jk [(59, 21), (59, 22), (59, 23), (59, 24), (59, 25), (59, 32)] K = true) (hl : jl [66, 67, 70, 71] L = true) : j2 R F I' A' := by
  unfold j2 mR mL
  rw [f 59 21 (nk hk rfl), f 59 22 (nk hk rfl), f 59 23 (nk hk rfl), f 59 24 (nk hk rfl), f 59 25 (nk hk rfl), f 59 32 (nk hk rfl), g 66 (nk hl rfl), g 67 (nk hl rfl), g 70 (nk hl rfl), g 71 (nk hl rfl)]
  exact h
theorem j3.t (h : j3 T I A) (f : fi K I I') (g : fr L A A') (hk : jk [(3, 1), (59, 2)] K = true) (hl : jl [4, 61] L = true) : j3 T I' A' := by
  unfold j3 tpC tpM
  rw [f 3 1 (nk hk rfl), f 59 2 (nk hk rfl), g 4 (nk hl rfl), g 61 (nk hl rfl)]
  exact h
/-- a text was read: the tape is empty -/
theorem j3.z (h : j3 T I A) (e1 : I' 3 1 = 0) (e2 : I' 59 2 = 0) : j3 T I' A' := by
  refine ⟨⟨h.1.1, fun j j0 j1 => ?_, ?_⟩, ⟨h.1.1, fun j j0 j1 => ?_, ?_⟩, e1.trans e2.symm⟩
  · omega
  · omega
  · omega
  · omega
theorem j4.t (h : j4 I) (f : fi K I I') (hk : jk [(3, 7), (59, 8)] K = true) : j4 I' := by
  unfold j4
  rw [f 3 7 (nk hk rfl), f 59 8 (nk hk rfl)]
  exact h
theorem j5.t (h : j5 tl I A) (f : fi K I I') (g : fr L A A') (hk : jk [(36, 6), (59, 48)] K = true) (hl : jl [37, 81] L = true) : j5 tl I' A' := by
  unfold j5 mT
  rw [f 36 6 (nk hk rfl), f 59 48 (nk hk rfl), g 37 (nk hl rfl), g 81 (nk hl rfl)]
  exact h
theorem j6.t (h : j6 I) (f : fi K I I') (hk : jk [(2, 15), (59, 38)] K = true) : j6 I' := by
  unfold j6
  rw [f 2 15 (nk hk rfl), f 59 38 (nk hk rfl)]
  exact h
theorem j7.t (h : j7 I A) (f : fi K I I') (g : fr L A A') (hk : jk [(2, 16), (2, 17)] K = true) (hl : jl [60] L = true) : j7 I' A' := by
  unfold j7
  rw [f 2 16 (nk hk rfl), f 2 17 (nk hk rfl), g 60 (nk hl rfl)]
  exact h
theorem j8.t (h : j8 R l I A W) (f : fi K I I') (g : fr L A A') (hk : jk [(59, 37)] K = true) (hl : jl [78] L = true) (hw : ∃ E, W'.1 = W.1 ∧ dyn W' = dyn W ++ E) : j8 R l I' A' W' := by
  obtain ⟨E, w1, w2⟩ := hw
  unfold j8
  rw [f 59 37 (nk hk rfl), g 78 (nk hl rfl), w1, w2]
  exact ⟨h.1.ap, h.2⟩
theorem j9.t (h : j9 R r I A W) (f : fi K I I') (g : fr L A A') (hk : jk [(2, 14), (59, 61)] K = true) (hl : jl [88] L = true) (hw : ∃ E, W'.2.1 = W.2.1 ∧ dyn W' = dyn W ++ E) : j9 R r I' A' W' := by
  obtain ⟨E, w1, w2⟩ := hw
  unfold j9
  rw [f 2 14 (nk hk rfl), f 59 61 (nk hk rfl), g 88 (nk hl rfl), w1, w2]
  exact ⟨h.1, h.2.1, h.2.2.1, h.2.2.2.1.ap, h.2.2.2.2⟩
def Iw (R : zR) (F : zF) (l : zL) (r : zG) (T tl : Int → Int) (I : Nat → Nat → Int) (A : Nat → Int → Int) (W : qWt) : Prop := j1 R F I A ∧ j2 R F I A ∧ j3 T I A ∧ j4 I ∧ j5 tl I A ∧ j6 I ∧ j7 I A ∧ j8 R l I A W ∧ j9 R r I A W
/-- cells behind the first ninety: how many, how large -/
def zz (D : List va_E) : Nat := (D.map q_se).sum
theorem zz_ap {D E : List va_E} : zz (D ++ E) = zz D + zz E := by simp [zz]
/-- between two calls: c were made; the script is kept -/
def Ivs (c n : Nat) (f : Nat → Int32) (I : Nat → Nat → Int) (A : Nat → Int → Int) (W : qWt) : Prop := (∃ R F l r T tl, Iw R F l r T tl I A W) ∧ W.2.2.2.1 = n ∧ W.2.2.2.2.1 = f ∧ (dyn W).length ≤ 2 * c ∧ zz (dyn W) ≤ 46 * c
theorem Ivs.up {c n : Nat} {f : Nat → Int32} (h : Ivs c n f I A W) : Ivs (c + 1) n f I A W := ⟨h.1, h.2.1, h.2.2.1, by have := h.2.2.2.1; omega, by have := h.2.2.2.2; omega⟩
/-- the row that a question is asked of -/
theorem Iw.c {s : Int → Int} (h : Iw R F l r T tl I A W) (hs : cpy 47 (A 76) (A 77) = s) : cX R F s I A := h.1.cg (sE.of h.1.1.1 fun k k0 k1 => by rw [← hs, cpy_t k0 k1])
theorem Iw.m {s : Int → Int} (h : Iw R F l r T tl I A W) (hs : cpy 47 (A 76) (A 77) = s) : mX R F s I A := ⟨h.2.1.1, hs, (h.c hs).2.2.1, h.2.1.2⟩
/-- after a question -/
theorem Iw.q {E : List va_E} (h : Iw R F l r T tl I A W) (f : fi Kq I I') (g : fr Lq A A') : Iw R F l r T tl I' A' (axs W E) := ⟨h.1.t f g rfl rfl, h.2.1.t f g rfl rfl, h.2.2.1.t f g rfl rfl, h.2.2.2.1.t f rfl, h.2.2.2.2.1.t f g rfl rfl, h.2.2.2.2.2.1.t f rfl, h.2.2.2.2.2.2.1.t f g rfl rfl, h.2.2.2.2.2.2.2.1.t f g rfl rfl ⟨E, rfl, rfl⟩, h.2.2.2.2.2.2.2.2.t f g rfl rfl ⟨E, rfl, rfl⟩⟩
end JT
