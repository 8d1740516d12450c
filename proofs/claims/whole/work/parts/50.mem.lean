/-! The heap of the law's run: its first ninety cells by what they hold, in whole numbers. I c f: the int in field f of cell c; A c j: place j of the row in cell c; W: what else there is: plays, the images' row, the law's own row of one long, the script's length, the script, the cells behind. -/
abbrev qWt : Type := Value × (Nat → Option Nat) × (Nat → Int64) × Nat × (Nat → Int32) × List va_E
def zI (x : Int) : Int32 := Int32.ofInt x
def za (f : Int → Int) : Nat → Int32 := fun j => zI (f (j : Int))
def u2 (I : Nat → Nat → Int) (c f : Nat) (v : Int) (c' f' : Nat) : Int := if c' = c then (if f' = f then v else I c' f') else I c' f'
def ua (A : Nat → Int → Int) (c : Nat) (g : Int → Int) (c' : Nat) : Int → Int := if c' = c then g else A c'
def up (f : Int → Int) (j x j' : Int) : Int := if j' = j then x else f j'
def uc (f g : Int → Int) (sp dp n j : Int) : Int := if dp ≤ j ∧ j < dp + n then f (sp + (j - dp)) else g j
theorem zI_toInt {x : Int} (h0 : -2147483648 ≤ x) (h1 : x < 2147483648) : (zI x).toInt = x := Int32.toInt_ofInt_of_le h0 h1
theorem zI_cl {x : Int} (h0 : 0 ≤ x) (h1 : x < 2147483648) : ((zI x).toNatClampNeg : Int) = x := by
  have e := zI_toInt (x := x) (by omega) h1
  show ((zI x).toInt.toNat : Int) = x
  rw [e]
  omega
theorem zI_in {x : Int} {n : Nat} (h0 : 0 ≤ x) (h1 : x < (n : Int)) (hn : n < 2147483648) : q_in (zI x) n = true := by
  have e := zI_toInt (x := x) (by omega) (by omega)
  have hc := zI_cl (x := x) h0 (by omega)
  unfold q_in
  rw [Bool.and_eq_true, decide_eq_true_eq, Bool.not_eq_true', decide_eq_false_iff_not]
  refine ⟨fun hlt => ?_, by omega⟩
  have := Int32.lt_iff_toInt_lt.mp hlt
  rw [e] at this
  have z0 : (0 : Int32).toInt = 0 := rfl
  omega
theorem za_at {f : Int → Int} {x : Int} (h0 : 0 ≤ x) (h1 : x < 2147483648) : za f (zI x).toNatClampNeg = zI (f x) := by
  show zI (f ((zI x).toNatClampNeg : Int)) = _
  rw [zI_cl h0 h1]
theorem za_up {f : Int → Int} {x v : Int} (h0 : 0 ≤ x) (h1 : x < 2147483648) : upd (za f) (zI x).toNatClampNeg (zI v) = za (up f x v) := by
  funext j
  have hc := zI_cl h0 h1
  show (if j = (zI x).toNatClampNeg then zI v else zI (f j)) = zI (if (j : Int) = x then v else f j)
  by_cases h : j = (zI x).toNatClampNeg
  · rw [if_pos h, if_pos (by omega)]
  · rw [if_neg h, if_neg (by omega)]
theorem za_cpy {f g : Int → Int} {sp dp n : Int} (h0 : 0 ≤ sp) (h1 : sp < 2147483648) (h2 : 0 ≤ dp) (h3 : dp < 2147483648) (h4 : 0 ≤ n) (h5 : n < 2147483648) : va_cpy (za f) (za g) (zI sp).toNatClampNeg (zI dp).toNatClampNeg (zI n).toNatClampNeg = za (uc f g sp dp n) := by
  funext j
  have c1 := zI_cl h0 h1
  have c2 := zI_cl h2 h3
  have c3 := zI_cl h4 h5
  show _ = zI (if dp ≤ (j : Int) ∧ (j : Int) < dp + n then f (sp + (j - dp)) else g j)
  by_cases h : dp ≤ (j : Int) ∧ (j : Int) < dp + n
  · rw [if_pos h, pk_cpy_in (by omega) (by omega)]
    show zI (f _) = _
    congr 2
    omega
  · rw [if_neg h, pk_cpy_out (by omega)]
    rfl
theorem zx_ld {h : qH} {c n t : Nat} {f : Int → Int} {j : Int} {k : Int32 → qR} (he : h[c]? = some (.inl (t, n, .inl (za f)))) (hn : n < 2147483648) (h0 : 0 ≤ j) (h1 : j < (n : Int)) : q_ald h (.ref c) t (zI j) k = k (zI (f j)) := by
  unfold q_ald q_arr
  simp only [he]
  rw [if_pos trivial, if_pos (zI_in h0 h1 hn), za_at h0 (by omega)]
theorem zx_bl {h : qH} {c n t : Nat} {f : Int → Int} {j : Int} {k : Int32 → qR} (he : h[c]? = some (.inl (t, n, .inl (za f)))) (ht : t = 2 ∨ t = 3) (hn : n < 2147483648) (h0 : 0 ≤ j) (h1 : j < (n : Int)) : q_bld h (.ref c) (zI j) k = k (zI (f j)) := by
  unfold q_bld
  simp only [he]
  rw [if_pos ⟨ht, zI_in h0 h1 hn⟩, za_at h0 (by omega)]
theorem zx_st {h h' : qH} {c n t : Nat} {f : Int → Int} {j x : Int} {k : qH → qR} (he : h[c]? = some (.inl (t, n, .inl (za f)))) (hc : 2 ≤ c) (hn : n < 2147483648) (e : h.set c (.inl (t, n, .inl (za (up f j x)))) = h') (h0 : 0 ≤ j) (h1 : j < (n : Int)) : q_ast h (.ref c) t (zI j) (zI x) k = k h' := by
  unfold q_ast q_arr
  simp only [he]
  rw [if_pos trivial, if_pos ⟨hc, zI_in h0 h1 hn⟩, za_up h0 (by omega), e]
theorem zx_bs {h h' : qH} {c n : Nat} {f : Int → Int} {j x : Int} {k : qH → qR} (he : h[c]? = some (.inl (3, n, .inl (za f)))) (hc : 2 ≤ c) (hn : n < 2147483648) (e : h.set c (.inl (3, n, .inl (za (up f j x)))) = h') (h0 : 0 ≤ j) (h1 : j < (n : Int)) (hx : x = 0 ∨ x = 1) : q_bst h (.ref c) (zI j) (zI x) k = k h' := by
  unfold q_bst
  simp only [he]
  rw [if_pos ⟨hc, .inr ⟨trivial, by rcases hx with rfl | rfl <;> decide⟩, zI_in h0 h1 hn⟩, if_neg (by decide), za_up h0 (by omega), e]
theorem zx_by {h h' : qH} {c n : Nat} {f : Int → Int} {j x : Int} {k : qH → qR} {v : Int32} (he : h[c]? = some (.inl (2, n, .inl (za f)))) (hc : 2 ≤ c) (hn : n < 2147483648) (e : h.set c (.inl (2, n, .inl (za (up f j x)))) = h') (h0 : 0 ≤ j) (h1 : j < (n : Int)) (hv : vp_nar .byte v = zI x) : q_bst h (.ref c) (zI j) v k = k h' := by
  unfold q_bst
  simp only [he]
  rw [if_pos ⟨hc, .inl trivial, zI_in h0 h1 hn⟩, if_pos trivial, hv, za_up h0 (by omega), e]
theorem zx_cp {h h' : qH} {c c' n n' : Nat} {f g : Int → Int} {sp dp m : Int} {k : qH → qR} (he : h[c]? = some (.inl (0, n, .inl (za f)))) (hg : h[c']? = some (.inl (0, n', .inl (za g)))) (hc : 2 ≤ c') (hne : c ≠ c') (hn : n < 2147483648) (hn' : n' < 2147483648) (e : h.set c' (.inl (0, n', .inl (za (uc f g sp dp m)))) = h') (h0 : 0 ≤ sp) (h1 : sp + m ≤ (n : Int)) (h2 : 0 ≤ dp) (h3 : dp + m ≤ (n' : Int)) (h4 : 0 ≤ m) : q_cpy h (.ref c) (zI sp) (.ref c') (zI dp) (zI m) k = k h' := by
  unfold q_cpy q_arr
  simp only [he, hg]
  have c1 := zI_cl h0 (by omega : sp < 2147483648)
  have c2 := zI_cl h2 (by omega : dp < 2147483648)
  have c3 := zI_cl h4 (by omega : m < 2147483648)
  have nn : ∀ {x : Int}, 0 ≤ x → x < 2147483648 → (0 : Int32) ≤ zI x := fun {x} a b => by
    rw [Int32.le_iff_toInt_le, zI_toInt (by omega) b]
    exact a
  rw [if_pos trivial, if_pos trivial, if_pos ⟨fun q => hne (by injection q), hc, nn h0 (by omega), nn h2 (by omega), nn h4 (by omega), by omega, by omega⟩, za_cpy h0 (by omega) h2 (by omega) h4 (by omega), e]
def zM (I : Nat → Nat → Int) (A : Nat → Int → Int) (W : qWt) : qH := [.inl (0, W.2.2.2.1, .inl W.2.2.2.2.1), .inl (0, 9, .inl q_plain), .inr (10, [.ref 3, .ref 5, .ref 12, .ref 19, .ref 36, .ref 41, .ref 24, .ref 30, .ref 45, .ref 51, .ref 56, .ref 57, .ref 58, W.1, .int (zI (I 2 14)), .int (zI (I 2 15)), .int (zI (I 2 16)), .int (zI (I 2 17))]), .inr (9, [.ref 4, .int (zI (I 3 1)), .int (zI (I 3 2)), .int (zI (I 3 3)), .int (zI (I 3 4)), .int (zI (I 3 5)), .int (zI (I 3 6)), .int (zI (I 3 7))]), .inl (2, 600, .inl (za (A 4))), .inr (6, [.int (zI (I 5 0)), .int (zI (I 5 1)), .int (zI (I 5 2)), .int (zI (I 5 3)), .int (zI (I 5 4)), .ref 6, .ref 7, .ref 8, .ref 9, .ref 10, .ref 11]), .inl (0, 5, .inl (za (A 6))), .inl (0, 10, .inl (za (A 7))), .inl (0, 10, .inl (za (A 8))), .inl (0, 10, .inl (za (A 9))), .inl (0, 4, .inl (za (A 10))), .inl (0, 4, .inl (za (A 11))), .inr (6, [.int (zI (I 12 0)), .int (zI (I 12 1)), .int (zI (I 12 2)), .int (zI (I 12 3)), .int (zI (I 12 4)), .ref 13, .ref 14, .ref 15, .ref 16, .ref 17, .ref 18]), .inl (0, 5, .inl (za (A 13))), .inl (0, 10, .inl (za (A 14))), .inl (0, 10, .inl (za (A 15))), .inl (0, 10, .inl (za (A 16))), .inl (0, 4, .inl (za (A 17))), .inl (0, 4, .inl (za (A 18))), .inr (5, [.ref 20, .ref 21, .ref 22, .ref 23, .int (zI (I 19 4)), .int (zI (I 19 5))]), .inl (0, 150, .inl (za (A 20))), .inl (0, 150, .inl (za (A 21))), .inl (0, 32, .inl (za (A 22))), .inl (0, 9, .inl (za (A 23))), .inr (1, [.ref 5, .ref 19, .ref 25, .ref 26, .ref 27, .ref 28, .ref 29, .int (zI (I 24 7)), .int (zI (I 24 8))]), .inl (0, 10, .inl (za (A 25))), .inl (0, 10, .inl (za (A 26))), .inl (0, 10, .inl (za (A 27))), .inl (0, 5, .inl (za (A 28))), .inl (0, 30, .inl (za (A 29))), .inr (1, [.ref 5, .ref 19, .ref 31, .ref 32, .ref 33, .ref 34, .ref 35, .int (zI (I 30 7)), .int (zI (I 30 8))]), .inl (0, 10, .inl (za (A 31))), .inl (0, 10, .inl (za (A 32))), .inl (0, 10, .inl (za (A 33))), .inl (0, 5, .inl (za (A 34))), .inl (0, 30, .inl (za (A 35))), .inr (2, [.ref 24, .ref 19, .ref 37, .ref 38, .ref 39, .ref 40, .int (zI (I 36 6)), .int (zI (I 36 7)), .int (zI (I 36 8)), .int (zI (I 36 9)), .int (zI (I 36 10))]), .inl (0, 10, .inl (za (A 37))), .inl (0, 10, .inl (za (A 38))), .inl (0, 100, .inl (za (A 39))), .inl (0, 61, .inl (za (A 40))), .inr (8, [.ref 42, .ref 43, .ref 44, .int (zI (I 41 3)), .int (zI (I 41 4)), .int (zI (I 41 5)), .int (zI (I 41 6)), .int (zI (I 41 7))]), .inl (0, 38, .inl (za (A 42))), .inl (0, 38, .inl (za (A 43))), .inl (0, 38, .inl (za (A 44))), .inr (0, [.ref 5, .ref 24, .ref 19, .ref 46, .ref 47, .ref 48, .ref 49, .ref 50, .int (zI (I 45 8)), .int (zI (I 45 9)), .int (zI (I 45 10)), .int (zI (I 45 11)), .int (zI (I 45 12))]), .inl (0, 30, .inl (za (A 46))), .inl (0, 30, .inl (za (A 47))), .inl (0, 30, .inl (za (A 48))), .inl (0, 4, .inl (za (A 49))), .inl (0, 4, .inl (za (A 50))), .inr (3, [.ref 5, .ref 24, .ref 52, .ref 53, .ref 54, .ref 55, .int (zI (I 51 6)), .int (zI (I 51 7)), .int (zI (I 51 8)), .int (zI (I 51 9))]), .inl (0, 10, .inl (za (A 52))), .inl (0, 10, .inl (za (A 53))), .inl (0, 10, .inl (za (A 54))), .inl (0, 10, .inl (za (A 55))), .inr (7, [.ref 5, .ref 30, .int (zI (I 56 2)), .int (zI (I 56 3))]), .inl (4, 3, .inr (.inr (.inr (.inr W.2.1)))), .inl (0, 37, .inl (za (A 58))), .inr (11, [.int (zI (I 59 0)), .ref 60, .int (zI (I 59 2)), .int (zI (I 59 3)), .int (zI (I 59 4)), .int (zI (I 59 5)), .int (zI (I 59 6)), .int (zI (I 59 7)), .int (zI (I 59 8)), .ref 61, .ref 62, .ref 63, .ref 64, .ref 65, .ref 66, .ref 67, .int (zI (I 59 16)), .int (zI (I 59 17)), .int (zI (I 59 18)), .int (zI (I 59 19)), .int (zI (I 59 20)), .int (zI (I 59 21)), .int (zI (I 59 22)), .int (zI (I 59 23)), .int (zI (I 59 24)), .int (zI (I 59 25)), .ref 68, .ref 69, .ref 70, .ref 71, .ref 72, .int (zI (I 59 31)), .int (zI (I 59 32)), .ref 73, .ref 74, .ref 75, .int (zI (I 59 36)), .int (zI (I 59 37)), .int (zI (I 59 38)), .int (zI (I 59 39)), .int (zI (I 59 40)), .int (zI (I 59 41)), .ref 76, .ref 77, .ref 78, .ref 79, .ref 80, .ref 81, .int (zI (I 59 48)), .ref 82, .ref 83, .ref 84, .int (zI (I 59 52)), .int (zI (I 59 53)), .ref 85, .ref 86, .int (zI (I 59 56)), .ref 87, .int (zI (I 59 58)), .int (zI (I 59 59)), .ref 88, .int (zI (I 59 61))]), .inl (0, 2, .inl (za (A 60))), .inl (0, 600, .inl (za (A 61))), .inl (0, 5, .inl (za (A 62))), .inl (0, 30, .inl (za (A 63))), .inl (0, 8, .inl (za (A 64))), .inl (0, 5, .inl (za (A 65))), .inl (0, 30, .inl (za (A 66))), .inl (0, 8, .inl (za (A 67))), .inl (0, 150, .inl (za (A 68))), .inl (0, 150, .inl (za (A 69))), .inl (0, 150, .inl (za (A 70))), .inl (0, 150, .inl (za (A 71))), .inl (0, 150, .inl (za (A 72))), .inl (0, 9, .inl (za (A 73))), .inl (0, 150, .inl (za (A 74))), .inl (0, 150, .inl (za (A 75))), .inl (0, 47, .inl (za (A 76))), .inl (0, 47, .inl (za (A 77))), .inl (0, 752, .inl (za (A 78))), .inl (3, 10, .inl (za (A 79))), .inl (0, 9, .inl (za (A 80))), .inl (0, 9, .inl (za (A 81))), .inl (0, 30, .inl (za (A 82))), .inl (0, 30, .inl (za (A 83))), .inl (0, 30, .inl (za (A 84))), .inl (0, 4, .inl (za (A 85))), .inl (0, 4, .inl (za (A 86))), .inl (0, 61, .inl (za (A 87))), .inl (0, 2400, .inl (za (A 88))), .inl (1, 1, .inr (.inl W.2.2.1))] ++ W.2.2.2.2.2
set_option maxRecDepth 10000 in
theorem mc_2 {I : Nat → Nat → Int} {A : Nat → Int → Int} {W : qWt} {k : qR} : q_rcv (zM I A W) (.ref 2) 10 k = k := rfl
set_option maxRecDepth 10000 in
theorem zg_2_0 {I : Nat → Nat → Int} {A : Nat → Int → Int} {W : qWt} {k : Nat → qR} : q_gR (zM I A W) (.ref 2) 10 0 k = k 3 := rfl
set_option maxRecDepth 10000 in
theorem zg_2_1 {I : Nat → Nat → Int} {A : Nat → Int → Int} {W : qWt} {k : Nat → qR} : q_gR (zM I A W) (.ref 2) 10 1 k = k 5 := rfl
set_option maxRecDepth 10000 in
theorem zg_2_2 {I : Nat → Nat → Int} {A : Nat → Int → Int} {W : qWt} {k : Nat → qR} : q_gR (zM I A W) (.ref 2) 10 2 k = k 12 := rfl
set_option maxRecDepth 10000 in
theorem zg_2_3 {I : Nat → Nat → Int} {A : Nat → Int → Int} {W : qWt} {k : Nat → qR} : q_gR (zM I A W) (.ref 2) 10 3 k = k 19 := rfl
set_option maxRecDepth 10000 in
theorem zg_2_4 {I : Nat → Nat → Int} {A : Nat → Int → Int} {W : qWt} {k : Nat → qR} : q_gR (zM I A W) (.ref 2) 10 4 k = k 36 := rfl
set_option maxRecDepth 10000 in
theorem zg_2_5 {I : Nat → Nat → Int} {A : Nat → Int → Int} {W : qWt} {k : Nat → qR} : q_gR (zM I A W) (.ref 2) 10 5 k = k 41 := rfl
set_option maxRecDepth 10000 in
theorem zg_2_6 {I : Nat → Nat → Int} {A : Nat → Int → Int} {W : qWt} {k : Nat → qR} : q_gR (zM I A W) (.ref 2) 10 6 k = k 24 := rfl
set_option maxRecDepth 10000 in
theorem zg_2_7 {I : Nat → Nat → Int} {A : Nat → Int → Int} {W : qWt} {k : Nat → qR} : q_gR (zM I A W) (.ref 2) 10 7 k = k 30 := rfl
set_option maxRecDepth 10000 in
theorem zg_2_8 {I : Nat → Nat → Int} {A : Nat → Int → Int} {W : qWt} {k : Nat → qR} : q_gR (zM I A W) (.ref 2) 10 8 k = k 45 := rfl
set_option maxRecDepth 10000 in
theorem zg_2_9 {I : Nat → Nat → Int} {A : Nat → Int → Int} {W : qWt} {k : Nat → qR} : q_gR (zM I A W) (.ref 2) 10 9 k = k 51 := rfl
set_option maxRecDepth 10000 in
theorem zg_2_10 {I : Nat → Nat → Int} {A : Nat → Int → Int} {W : qWt} {k : Nat → qR} : q_gR (zM I A W) (.ref 2) 10 10 k = k 56 := rfl
set_option maxRecDepth 10000 in
theorem zg_2_11 {I : Nat → Nat → Int} {A : Nat → Int → Int} {W : qWt} {k : Nat → qR} : q_gR (zM I A W) (.ref 2) 10 11 k = k 57 := rfl
set_option maxRecDepth 10000 in
theorem zg_2_12 {I : Nat → Nat → Int} {A : Nat → Int → Int} {W : qWt} {k : Nat → qR} : q_gR (zM I A W) (.ref 2) 10 12 k = k 58 := rfl
set_option maxRecDepth 10000 in
theorem zg_2_14 {I : Nat → Nat → Int} {A : Nat → Int → Int} {W : qWt} {k : Int32 → qR} : q_gI (zM I A W) (.ref 2) 10 14 k = k (zI (I 2 14)) := rfl
set_option maxRecDepth 10000 in
theorem zp_2_14 {I : Nat → Nat → Int} {A : Nat → Int → Int} {W : qWt} {v : Int} {k : qH → qR} : q_pV (zM I A W) (.ref 2) 10 14 (.int (zI v)) k = k (zM (u2 I 2 14 v) A W) := rfl
set_option maxRecDepth 10000 in
theorem zg_2_15 {I : Nat → Nat → Int} {A : Nat → Int → Int} {W : qWt} {k : Int32 → qR} : q_gI (zM I A W) (.ref 2) 10 15 k = k (zI (I 2 15)) := rfl
set_option maxRecDepth 10000 in
theorem zp_2_15 {I : Nat → Nat → Int} {A : Nat → Int → Int} {W : qWt} {v : Int} {k : qH → qR} : q_pV (zM I A W) (.ref 2) 10 15 (.int (zI v)) k = k (zM (u2 I 2 15 v) A W) := rfl
set_option maxRecDepth 10000 in
theorem zg_2_16 {I : Nat → Nat → Int} {A : Nat → Int → Int} {W : qWt} {k : Int32 → qR} : q_gI (zM I A W) (.ref 2) 10 16 k = k (zI (I 2 16)) := rfl
set_option maxRecDepth 10000 in
theorem zp_2_16 {I : Nat → Nat → Int} {A : Nat → Int → Int} {W : qWt} {v : Int} {k : qH → qR} : q_pV (zM I A W) (.ref 2) 10 16 (.int (zI v)) k = k (zM (u2 I 2 16 v) A W) := rfl
set_option maxRecDepth 10000 in
theorem zg_2_17 {I : Nat → Nat → Int} {A : Nat → Int → Int} {W : qWt} {k : Int32 → qR} : q_gI (zM I A W) (.ref 2) 10 17 k = k (zI (I 2 17)) := rfl
set_option maxRecDepth 10000 in
theorem zp_2_17 {I : Nat → Nat → Int} {A : Nat → Int → Int} {W : qWt} {v : Int} {k : qH → qR} : q_pV (zM I A W) (.ref 2) 10 17 (.int (zI v)) k = k (zM (u2 I 2 17 v) A W) := rfl
set_option maxRecDepth 10000 in
theorem mc_3 {I : Nat → Nat → Int} {A : Nat → Int → Int} {W : qWt} {k : qR} : q_rcv (zM I A W) (.ref 3) 9 k = k := rfl
set_option maxRecDepth 10000 in
theorem zg_3_0 {I : Nat → Nat → Int} {A : Nat → Int → Int} {W : qWt} {k : Nat → qR} : q_gR (zM I A W) (.ref 3) 9 0 k = k 4 := rfl
set_option maxRecDepth 10000 in
theorem zg_3_1 {I : Nat → Nat → Int} {A : Nat → Int → Int} {W : qWt} {k : Int32 → qR} : q_gI (zM I A W) (.ref 3) 9 1 k = k (zI (I 3 1)) := rfl
set_option maxRecDepth 10000 in
theorem zp_3_1 {I : Nat → Nat → Int} {A : Nat → Int → Int} {W : qWt} {v : Int} {k : qH → qR} : q_pV (zM I A W) (.ref 3) 9 1 (.int (zI v)) k = k (zM (u2 I 3 1 v) A W) := rfl
set_option maxRecDepth 10000 in
theorem zg_3_2 {I : Nat → Nat → Int} {A : Nat → Int → Int} {W : qWt} {k : Int32 → qR} : q_gI (zM I A W) (.ref 3) 9 2 k = k (zI (I 3 2)) := rfl
set_option maxRecDepth 10000 in
theorem zp_3_2 {I : Nat → Nat → Int} {A : Nat → Int → Int} {W : qWt} {v : Int} {k : qH → qR} : q_pV (zM I A W) (.ref 3) 9 2 (.int (zI v)) k = k (zM (u2 I 3 2 v) A W) := rfl
set_option maxRecDepth 10000 in
theorem zg_3_3 {I : Nat → Nat → Int} {A : Nat → Int → Int} {W : qWt} {k : Int32 → qR} : q_gI (zM I A W) (.ref 3) 9 3 k = k (zI (I 3 3)) := rfl
set_option maxRecDepth 10000 in
theorem zp_3_3 {I : Nat → Nat → Int} {A : Nat → Int → Int} {W : qWt} {v : Int} {k : qH → qR} : q_pV (zM I A W) (.ref 3) 9 3 (.int (zI v)) k = k (zM (u2 I 3 3 v) A W) := rfl
set_option maxRecDepth 10000 in
theorem zg_3_4 {I : Nat → Nat → Int} {A : Nat → Int → Int} {W : qWt} {k : Int32 → qR} : q_gI (zM I A W) (.ref 3) 9 4 k = k (zI (I 3 4)) := rfl
set_option maxRecDepth 10000 in
theorem zp_3_4 {I : Nat → Nat → Int} {A : Nat → Int → Int} {W : qWt} {v : Int} {k : qH → qR} : q_pV (zM I A W) (.ref 3) 9 4 (.int (zI v)) k = k (zM (u2 I 3 4 v) A W) := rfl
set_option maxRecDepth 10000 in
theorem zg_3_5 {I : Nat → Nat → Int} {A : Nat → Int → Int} {W : qWt} {k : Int32 → qR} : q_gI (zM I A W) (.ref 3) 9 5 k = k (zI (I 3 5)) := rfl
set_option maxRecDepth 10000 in
theorem zp_3_5 {I : Nat → Nat → Int} {A : Nat → Int → Int} {W : qWt} {v : Int} {k : qH → qR} : q_pV (zM I A W) (.ref 3) 9 5 (.int (zI v)) k = k (zM (u2 I 3 5 v) A W) := rfl
set_option maxRecDepth 10000 in
theorem zg_3_6 {I : Nat → Nat → Int} {A : Nat → Int → Int} {W : qWt} {k : Int32 → qR} : q_gI (zM I A W) (.ref 3) 9 6 k = k (zI (I 3 6)) := rfl
set_option maxRecDepth 10000 in
theorem zp_3_6 {I : Nat → Nat → Int} {A : Nat → Int → Int} {W : qWt} {v : Int} {k : qH → qR} : q_pV (zM I A W) (.ref 3) 9 6 (.int (zI v)) k = k (zM (u2 I 3 6 v) A W) := rfl
set_option maxRecDepth 10000 in
theorem zg_3_7 {I : Nat → Nat → Int} {A : Nat → Int → Int} {W : qWt} {k : Int32 → qR} : q_gI (zM I A W) (.ref 3) 9 7 k = k (zI (I 3 7)) := rfl
set_option maxRecDepth 10000 in
theorem zp_3_7 {I : Nat → Nat → Int} {A : Nat → Int → Int} {W : qWt} {v : Int} {k : qH → qR} : q_pV (zM I A W) (.ref 3) 9 7 (.int (zI v)) k = k (zM (u2 I 3 7 v) A W) := rfl
set_option maxRecDepth 10000 in
theorem zl_4 {I : Nat → Nat → Int} {A : Nat → Int → Int} {W : qWt} {j : Int} {k : Int32 → qR} (h0 : 0 ≤ j) (h1 : j < 600) : q_bld (zM I A W) (.ref 4) (zI j) k = k (zI (A 4 j)) := zx_bl rfl (by decide) (by decide) h0 h1
set_option maxRecDepth 10000 in
theorem zs_4 {I : Nat → Nat → Int} {A : Nat → Int → Int} {W : qWt} {j x : Int} {v : Int32} {k : qH → qR} (h0 : 0 ≤ j) (h1 : j < 600) (hv : vp_nar .byte v = zI x) : q_bst (zM I A W) (.ref 4) (zI j) v k = k (zM I (ua A 4 (up (A 4) j x)) W) := zx_by rfl (by decide) (by decide) rfl h0 h1 hv
set_option maxRecDepth 10000 in
theorem zn_4 {I : Nat → Nat → Int} {A : Nat → Int → Int} {W : qWt} {k : Int32 → qR} : q_len (zM I A W) (.ref 4) k = k (zI 600) := rfl
set_option maxRecDepth 10000 in
theorem mc_5 {I : Nat → Nat → Int} {A : Nat → Int → Int} {W : qWt} {k : qR} : q_rcv (zM I A W) (.ref 5) 6 k = k := rfl
set_option maxRecDepth 10000 in
theorem zg_5_0 {I : Nat → Nat → Int} {A : Nat → Int → Int} {W : qWt} {k : Int32 → qR} : q_gI (zM I A W) (.ref 5) 6 0 k = k (zI (I 5 0)) := rfl
set_option maxRecDepth 10000 in
theorem zp_5_0 {I : Nat → Nat → Int} {A : Nat → Int → Int} {W : qWt} {v : Int} {k : qH → qR} : q_pV (zM I A W) (.ref 5) 6 0 (.int (zI v)) k = k (zM (u2 I 5 0 v) A W) := rfl
set_option maxRecDepth 10000 in
theorem zg_5_1 {I : Nat → Nat → Int} {A : Nat → Int → Int} {W : qWt} {k : Int32 → qR} : q_gI (zM I A W) (.ref 5) 6 1 k = k (zI (I 5 1)) := rfl
set_option maxRecDepth 10000 in
theorem zp_5_1 {I : Nat → Nat → Int} {A : Nat → Int → Int} {W : qWt} {v : Int} {k : qH → qR} : q_pV (zM I A W) (.ref 5) 6 1 (.int (zI v)) k = k (zM (u2 I 5 1 v) A W) := rfl
set_option maxRecDepth 10000 in
theorem zg_5_2 {I : Nat → Nat → Int} {A : Nat → Int → Int} {W : qWt} {k : Int32 → qR} : q_gI (zM I A W) (.ref 5) 6 2 k = k (zI (I 5 2)) := rfl
set_option maxRecDepth 10000 in
theorem zp_5_2 {I : Nat → Nat → Int} {A : Nat → Int → Int} {W : qWt} {v : Int} {k : qH → qR} : q_pV (zM I A W) (.ref 5) 6 2 (.int (zI v)) k = k (zM (u2 I 5 2 v) A W) := rfl
set_option maxRecDepth 10000 in
theorem zg_5_3 {I : Nat → Nat → Int} {A : Nat → Int → Int} {W : qWt} {k : Int32 → qR} : q_gI (zM I A W) (.ref 5) 6 3 k = k (zI (I 5 3)) := rfl
set_option maxRecDepth 10000 in
theorem zp_5_3 {I : Nat → Nat → Int} {A : Nat → Int → Int} {W : qWt} {v : Int} {k : qH → qR} : q_pV (zM I A W) (.ref 5) 6 3 (.int (zI v)) k = k (zM (u2 I 5 3 v) A W) := rfl
set_option maxRecDepth 10000 in
theorem zg_5_4 {I : Nat → Nat → Int} {A : Nat → Int → Int} {W : qWt} {k : Int32 → qR} : q_gI (zM I A W) (.ref 5) 6 4 k = k (zI (I 5 4)) := rfl
set_option maxRecDepth 10000 in
theorem zp_5_4 {I : Nat → Nat → Int} {A : Nat → Int → Int} {W : qWt} {v : Int} {k : qH → qR} : q_pV (zM I A W) (.ref 5) 6 4 (.int (zI v)) k = k (zM (u2 I 5 4 v) A W) := rfl
set_option maxRecDepth 10000 in
theorem zg_5_5 {I : Nat → Nat → Int} {A : Nat → Int → Int} {W : qWt} {k : Nat → qR} : q_gR (zM I A W) (.ref 5) 6 5 k = k 6 := rfl
set_option maxRecDepth 10000 in
theorem zg_5_6 {I : Nat → Nat → Int} {A : Nat → Int → Int} {W : qWt} {k : Nat → qR} : q_gR (zM I A W) (.ref 5) 6 6 k = k 7 := rfl
set_option maxRecDepth 10000 in
theorem zg_5_7 {I : Nat → Nat → Int} {A : Nat → Int → Int} {W : qWt} {k : Nat → qR} : q_gR (zM I A W) (.ref 5) 6 7 k = k 8 := rfl
set_option maxRecDepth 10000 in
theorem zg_5_8 {I : Nat → Nat → Int} {A : Nat → Int → Int} {W : qWt} {k : Nat → qR} : q_gR (zM I A W) (.ref 5) 6 8 k = k 9 := rfl
set_option maxRecDepth 10000 in
theorem zg_5_9 {I : Nat → Nat → Int} {A : Nat → Int → Int} {W : qWt} {k : Nat → qR} : q_gR (zM I A W) (.ref 5) 6 9 k = k 10 := rfl
set_option maxRecDepth 10000 in
theorem zg_5_10 {I : Nat → Nat → Int} {A : Nat → Int → Int} {W : qWt} {k : Nat → qR} : q_gR (zM I A W) (.ref 5) 6 10 k = k 11 := rfl
set_option maxRecDepth 10000 in
theorem zl_6 {I : Nat → Nat → Int} {A : Nat → Int → Int} {W : qWt} {j : Int} {k : Int32 → qR} (h0 : 0 ≤ j) (h1 : j < 5) : q_ald (zM I A W) (.ref 6) 0 (zI j) k = k (zI (A 6 j)) := zx_ld rfl (by decide) h0 h1
set_option maxRecDepth 10000 in
theorem zs_6 {I : Nat → Nat → Int} {A : Nat → Int → Int} {W : qWt} {j x : Int} {k : qH → qR} (h0 : 0 ≤ j) (h1 : j < 5) : q_ast (zM I A W) (.ref 6) 0 (zI j) (zI x) k = k (zM I (ua A 6 (up (A 6) j x)) W) := zx_st rfl (by decide) (by decide) rfl h0 h1
set_option maxRecDepth 10000 in
theorem zn_6 {I : Nat → Nat → Int} {A : Nat → Int → Int} {W : qWt} {k : Int32 → qR} : q_len (zM I A W) (.ref 6) k = k (zI 5) := rfl
set_option maxRecDepth 10000 in
theorem zl_7 {I : Nat → Nat → Int} {A : Nat → Int → Int} {W : qWt} {j : Int} {k : Int32 → qR} (h0 : 0 ≤ j) (h1 : j < 10) : q_ald (zM I A W) (.ref 7) 0 (zI j) k = k (zI (A 7 j)) := zx_ld rfl (by decide) h0 h1
set_option maxRecDepth 10000 in
theorem zs_7 {I : Nat → Nat → Int} {A : Nat → Int → Int} {W : qWt} {j x : Int} {k : qH → qR} (h0 : 0 ≤ j) (h1 : j < 10) : q_ast (zM I A W) (.ref 7) 0 (zI j) (zI x) k = k (zM I (ua A 7 (up (A 7) j x)) W) := zx_st rfl (by decide) (by decide) rfl h0 h1
set_option maxRecDepth 10000 in
theorem zn_7 {I : Nat → Nat → Int} {A : Nat → Int → Int} {W : qWt} {k : Int32 → qR} : q_len (zM I A W) (.ref 7) k = k (zI 10) := rfl
set_option maxRecDepth 10000 in
theorem zl_8 {I : Nat → Nat → Int} {A : Nat → Int → Int} {W : qWt} {j : Int} {k : Int32 → qR} (h0 : 0 ≤ j) (h1 : j < 10) : q_ald (zM I A W) (.ref 8) 0 (zI j) k = k (zI (A 8 j)) := zx_ld rfl (by decide) h0 h1
set_option maxRecDepth 10000 in
theorem zs_8 {I : Nat → Nat → Int} {A : Nat → Int → Int} {W : qWt} {j x : Int} {k : qH → qR} (h0 : 0 ≤ j) (h1 : j < 10) : q_ast (zM I A W) (.ref 8) 0 (zI j) (zI x) k = k (zM I (ua A 8 (up (A 8) j x)) W) := zx_st rfl (by decide) (by decide) rfl h0 h1
set_option maxRecDepth 10000 in
theorem zn_8 {I : Nat → Nat → Int} {A : Nat → Int → Int} {W : qWt} {k : Int32 → qR} : q_len (zM I A W) (.ref 8) k = k (zI 10) := rfl
set_option maxRecDepth 10000 in
theorem zl_9 {I : Nat → Nat → Int} {A : Nat → Int → Int} {W : qWt} {j : Int} {k : Int32 → qR} (h0 : 0 ≤ j) (h1 : j < 10) : q_ald (zM I A W) (.ref 9) 0 (zI j) k = k (zI (A 9 j)) := zx_ld rfl (by decide) h0 h1
set_option maxRecDepth 10000 in
theorem zs_9 {I : Nat → Nat → Int} {A : Nat → Int → Int} {W : qWt} {j x : Int} {k : qH → qR} (h0 : 0 ≤ j) (h1 : j < 10) : q_ast (zM I A W) (.ref 9) 0 (zI j) (zI x) k = k (zM I (ua A 9 (up (A 9) j x)) W) := zx_st rfl (by decide) (by decide) rfl h0 h1
set_option maxRecDepth 10000 in
theorem zn_9 {I : Nat → Nat → Int} {A : Nat → Int → Int} {W : qWt} {k : Int32 → qR} : q_len (zM I A W) (.ref 9) k = k (zI 10) := rfl
set_option maxRecDepth 10000 in
theorem zl_10 {I : Nat → Nat → Int} {A : Nat → Int → Int} {W : qWt} {j : Int} {k : Int32 → qR} (h0 : 0 ≤ j) (h1 : j < 4) : q_ald (zM I A W) (.ref 10) 0 (zI j) k = k (zI (A 10 j)) := zx_ld rfl (by decide) h0 h1
set_option maxRecDepth 10000 in
theorem zs_10 {I : Nat → Nat → Int} {A : Nat → Int → Int} {W : qWt} {j x : Int} {k : qH → qR} (h0 : 0 ≤ j) (h1 : j < 4) : q_ast (zM I A W) (.ref 10) 0 (zI j) (zI x) k = k (zM I (ua A 10 (up (A 10) j x)) W) := zx_st rfl (by decide) (by decide) rfl h0 h1
set_option maxRecDepth 10000 in
theorem zn_10 {I : Nat → Nat → Int} {A : Nat → Int → Int} {W : qWt} {k : Int32 → qR} : q_len (zM I A W) (.ref 10) k = k (zI 4) := rfl
set_option maxRecDepth 10000 in
theorem zl_11 {I : Nat → Nat → Int} {A : Nat → Int → Int} {W : qWt} {j : Int} {k : Int32 → qR} (h0 : 0 ≤ j) (h1 : j < 4) : q_ald (zM I A W) (.ref 11) 0 (zI j) k = k (zI (A 11 j)) := zx_ld rfl (by decide) h0 h1
set_option maxRecDepth 10000 in
theorem zs_11 {I : Nat → Nat → Int} {A : Nat → Int → Int} {W : qWt} {j x : Int} {k : qH → qR} (h0 : 0 ≤ j) (h1 : j < 4) : q_ast (zM I A W) (.ref 11) 0 (zI j) (zI x) k = k (zM I (ua A 11 (up (A 11) j x)) W) := zx_st rfl (by decide) (by decide) rfl h0 h1
set_option maxRecDepth 10000 in
theorem zn_11 {I : Nat → Nat → Int} {A : Nat → Int → Int} {W : qWt} {k : Int32 → qR} : q_len (zM I A W) (.ref 11) k = k (zI 4) := rfl
set_option maxRecDepth 10000 in
theorem mc_12 {I : Nat → Nat → Int} {A : Nat → Int → Int} {W : qWt} {k : qR} : q_rcv (zM I A W) (.ref 12) 6 k = k := rfl
set_option maxRecDepth 10000 in
theorem zg_12_0 {I : Nat → Nat → Int} {A : Nat → Int → Int} {W : qWt} {k : Int32 → qR} : q_gI (zM I A W) (.ref 12) 6 0 k = k (zI (I 12 0)) := rfl
set_option maxRecDepth 10000 in
theorem zp_12_0 {I : Nat → Nat → Int} {A : Nat → Int → Int} {W : qWt} {v : Int} {k : qH → qR} : q_pV (zM I A W) (.ref 12) 6 0 (.int (zI v)) k = k (zM (u2 I 12 0 v) A W) := rfl
set_option maxRecDepth 10000 in
theorem zg_12_1 {I : Nat → Nat → Int} {A : Nat → Int → Int} {W : qWt} {k : Int32 → qR} : q_gI (zM I A W) (.ref 12) 6 1 k = k (zI (I 12 1)) := rfl
set_option maxRecDepth 10000 in
theorem zp_12_1 {I : Nat → Nat → Int} {A : Nat → Int → Int} {W : qWt} {v : Int} {k : qH → qR} : q_pV (zM I A W) (.ref 12) 6 1 (.int (zI v)) k = k (zM (u2 I 12 1 v) A W) := rfl
set_option maxRecDepth 10000 in
theorem zg_12_2 {I : Nat → Nat → Int} {A : Nat → Int → Int} {W : qWt} {k : Int32 → qR} : q_gI (zM I A W) (.ref 12) 6 2 k = k (zI (I 12 2)) := rfl
set_option maxRecDepth 10000 in
theorem zp_12_2 {I : Nat → Nat → Int} {A : Nat → Int → Int} {W : qWt} {v : Int} {k : qH → qR} : q_pV (zM I A W) (.ref 12) 6 2 (.int (zI v)) k = k (zM (u2 I 12 2 v) A W) := rfl
set_option maxRecDepth 10000 in
theorem zg_12_3 {I : Nat → Nat → Int} {A : Nat → Int → Int} {W : qWt} {k : Int32 → qR} : q_gI (zM I A W) (.ref 12) 6 3 k = k (zI (I 12 3)) := rfl
set_option maxRecDepth 10000 in
theorem zp_12_3 {I : Nat → Nat → Int} {A : Nat → Int → Int} {W : qWt} {v : Int} {k : qH → qR} : q_pV (zM I A W) (.ref 12) 6 3 (.int (zI v)) k = k (zM (u2 I 12 3 v) A W) := rfl
set_option maxRecDepth 10000 in
theorem zg_12_4 {I : Nat → Nat → Int} {A : Nat → Int → Int} {W : qWt} {k : Int32 → qR} : q_gI (zM I A W) (.ref 12) 6 4 k = k (zI (I 12 4)) := rfl
set_option maxRecDepth 10000 in
theorem zp_12_4 {I : Nat → Nat → Int} {A : Nat → Int → Int} {W : qWt} {v : Int} {k : qH → qR} : q_pV (zM I A W) (.ref 12) 6 4 (.int (zI v)) k = k (zM (u2 I 12 4 v) A W) := rfl
set_option maxRecDepth 10000 in
theorem zg_12_5 {I : Nat → Nat → Int} {A : Nat → Int → Int} {W : qWt} {k : Nat → qR} : q_gR (zM I A W) (.ref 12) 6 5 k = k 13 := rfl
set_option maxRecDepth 10000 in
theorem zg_12_6 {I : Nat → Nat → Int} {A : Nat → Int → Int} {W : qWt} {k : Nat → qR} : q_gR (zM I A W) (.ref 12) 6 6 k = k 14 := rfl
set_option maxRecDepth 10000 in
theorem zg_12_7 {I : Nat → Nat → Int} {A : Nat → Int → Int} {W : qWt} {k : Nat → qR} : q_gR (zM I A W) (.ref 12) 6 7 k = k 15 := rfl
set_option maxRecDepth 10000 in
theorem zg_12_8 {I : Nat → Nat → Int} {A : Nat → Int → Int} {W : qWt} {k : Nat → qR} : q_gR (zM I A W) (.ref 12) 6 8 k = k 16 := rfl
set_option maxRecDepth 10000 in
theorem zg_12_9 {I : Nat → Nat → Int} {A : Nat → Int → Int} {W : qWt} {k : Nat → qR} : q_gR (zM I A W) (.ref 12) 6 9 k = k 17 := rfl
set_option maxRecDepth 10000 in
theorem zg_12_10 {I : Nat → Nat → Int} {A : Nat → Int → Int} {W : qWt} {k : Nat → qR} : q_gR (zM I A W) (.ref 12) 6 10 k = k 18 := rfl
set_option maxRecDepth 10000 in
theorem zl_13 {I : Nat → Nat → Int} {A : Nat → Int → Int} {W : qWt} {j : Int} {k : Int32 → qR} (h0 : 0 ≤ j) (h1 : j < 5) : q_ald (zM I A W) (.ref 13) 0 (zI j) k = k (zI (A 13 j)) := zx_ld rfl (by decide) h0 h1
set_option maxRecDepth 10000 in
theorem zs_13 {I : Nat → Nat → Int} {A : Nat → Int → Int} {W : qWt} {j x : Int} {k : qH → qR} (h0 : 0 ≤ j) (h1 : j < 5) : q_ast (zM I A W) (.ref 13) 0 (zI j) (zI x) k = k (zM I (ua A 13 (up (A 13) j x)) W) := zx_st rfl (by decide) (by decide) rfl h0 h1
set_option maxRecDepth 10000 in
theorem zn_13 {I : Nat → Nat → Int} {A : Nat → Int → Int} {W : qWt} {k : Int32 → qR} : q_len (zM I A W) (.ref 13) k = k (zI 5) := rfl
set_option maxRecDepth 10000 in
theorem zl_14 {I : Nat → Nat → Int} {A : Nat → Int → Int} {W : qWt} {j : Int} {k : Int32 → qR} (h0 : 0 ≤ j) (h1 : j < 10) : q_ald (zM I A W) (.ref 14) 0 (zI j) k = k (zI (A 14 j)) := zx_ld rfl (by decide) h0 h1
set_option maxRecDepth 10000 in
theorem zs_14 {I : Nat → Nat → Int} {A : Nat → Int → Int} {W : qWt} {j x : Int} {k : qH → qR} (h0 : 0 ≤ j) (h1 : j < 10) : q_ast (zM I A W) (.ref 14) 0 (zI j) (zI x) k = k (zM I (ua A 14 (up (A 14) j x)) W) := zx_st rfl (by decide) (by decide) rfl h0 h1
set_option maxRecDepth 10000 in
theorem zn_14 {I : Nat → Nat → Int} {A : Nat → Int → Int} {W : qWt} {k : Int32 → qR} : q_len (zM I A W) (.ref 14) k = k (zI 10) := rfl
set_option maxRecDepth 10000 in
theorem zl_15 {I : Nat → Nat → Int} {A : Nat → Int → Int} {W : qWt} {j : Int} {k : Int32 → qR} (h0 : 0 ≤ j) (h1 : j < 10) : q_ald (zM I A W) (.ref 15) 0 (zI j) k = k (zI (A 15 j)) := zx_ld rfl (by decide) h0 h1
set_option maxRecDepth 10000 in
theorem zs_15 {I : Nat → Nat → Int} {A : Nat → Int → Int} {W : qWt} {j x : Int} {k : qH → qR} (h0 : 0 ≤ j) (h1 : j < 10) : q_ast (zM I A W) (.ref 15) 0 (zI j) (zI x) k = k (zM I (ua A 15 (up (A 15) j x)) W) := zx_st rfl (by decide) (by decide) rfl h0 h1
set_option maxRecDepth 10000 in
theorem zn_15 {I : Nat → Nat → Int} {A : Nat → Int → Int} {W : qWt} {k : Int32 → qR} : q_len (zM I A W) (.ref 15) k = k (zI 10) := rfl
set_option maxRecDepth 10000 in
theorem zl_16 {I : Nat → Nat → Int} {A : Nat → Int → Int} {W : qWt} {j : Int} {k : Int32 → qR} (h0 : 0 ≤ j) (h1 : j < 10) : q_ald (zM I A W) (.ref 16) 0 (zI j) k = k (zI (A 16 j)) := zx_ld rfl (by decide) h0 h1
set_option maxRecDepth 10000 in
theorem zs_16 {I : Nat → Nat → Int} {A : Nat → Int → Int} {W : qWt} {j x : Int} {k : qH → qR} (h0 : 0 ≤ j) (h1 : j < 10) : q_ast (zM I A W) (.ref 16) 0 (zI j) (zI x) k = k (zM I (ua A 16 (up (A 16) j x)) W) := zx_st rfl (by decide) (by decide) rfl h0 h1
set_option maxRecDepth 10000 in
theorem zn_16 {I : Nat → Nat → Int} {A : Nat → Int → Int} {W : qWt} {k : Int32 → qR} : q_len (zM I A W) (.ref 16) k = k (zI 10) := rfl
set_option maxRecDepth 10000 in
theorem zl_17 {I : Nat → Nat → Int} {A : Nat → Int → Int} {W : qWt} {j : Int} {k : Int32 → qR} (h0 : 0 ≤ j) (h1 : j < 4) : q_ald (zM I A W) (.ref 17) 0 (zI j) k = k (zI (A 17 j)) := zx_ld rfl (by decide) h0 h1
set_option maxRecDepth 10000 in
theorem zs_17 {I : Nat → Nat → Int} {A : Nat → Int → Int} {W : qWt} {j x : Int} {k : qH → qR} (h0 : 0 ≤ j) (h1 : j < 4) : q_ast (zM I A W) (.ref 17) 0 (zI j) (zI x) k = k (zM I (ua A 17 (up (A 17) j x)) W) := zx_st rfl (by decide) (by decide) rfl h0 h1
set_option maxRecDepth 10000 in
theorem zn_17 {I : Nat → Nat → Int} {A : Nat → Int → Int} {W : qWt} {k : Int32 → qR} : q_len (zM I A W) (.ref 17) k = k (zI 4) := rfl
set_option maxRecDepth 10000 in
theorem zl_18 {I : Nat → Nat → Int} {A : Nat → Int → Int} {W : qWt} {j : Int} {k : Int32 → qR} (h0 : 0 ≤ j) (h1 : j < 4) : q_ald (zM I A W) (.ref 18) 0 (zI j) k = k (zI (A 18 j)) := zx_ld rfl (by decide) h0 h1
set_option maxRecDepth 10000 in
theorem zs_18 {I : Nat → Nat → Int} {A : Nat → Int → Int} {W : qWt} {j x : Int} {k : qH → qR} (h0 : 0 ≤ j) (h1 : j < 4) : q_ast (zM I A W) (.ref 18) 0 (zI j) (zI x) k = k (zM I (ua A 18 (up (A 18) j x)) W) := zx_st rfl (by decide) (by decide) rfl h0 h1
set_option maxRecDepth 10000 in
theorem zn_18 {I : Nat → Nat → Int} {A : Nat → Int → Int} {W : qWt} {k : Int32 → qR} : q_len (zM I A W) (.ref 18) k = k (zI 4) := rfl
set_option maxRecDepth 10000 in
theorem mc_19 {I : Nat → Nat → Int} {A : Nat → Int → Int} {W : qWt} {k : qR} : q_rcv (zM I A W) (.ref 19) 5 k = k := rfl
set_option maxRecDepth 10000 in
theorem zg_19_0 {I : Nat → Nat → Int} {A : Nat → Int → Int} {W : qWt} {k : Nat → qR} : q_gR (zM I A W) (.ref 19) 5 0 k = k 20 := rfl
set_option maxRecDepth 10000 in
theorem zg_19_1 {I : Nat → Nat → Int} {A : Nat → Int → Int} {W : qWt} {k : Nat → qR} : q_gR (zM I A W) (.ref 19) 5 1 k = k 21 := rfl
set_option maxRecDepth 10000 in
theorem zg_19_2 {I : Nat → Nat → Int} {A : Nat → Int → Int} {W : qWt} {k : Nat → qR} : q_gR (zM I A W) (.ref 19) 5 2 k = k 22 := rfl
set_option maxRecDepth 10000 in
theorem zg_19_3 {I : Nat → Nat → Int} {A : Nat → Int → Int} {W : qWt} {k : Nat → qR} : q_gR (zM I A W) (.ref 19) 5 3 k = k 23 := rfl
set_option maxRecDepth 10000 in
theorem zg_19_4 {I : Nat → Nat → Int} {A : Nat → Int → Int} {W : qWt} {k : Int32 → qR} : q_gI (zM I A W) (.ref 19) 5 4 k = k (zI (I 19 4)) := rfl
set_option maxRecDepth 10000 in
theorem zp_19_4 {I : Nat → Nat → Int} {A : Nat → Int → Int} {W : qWt} {v : Int} {k : qH → qR} : q_pV (zM I A W) (.ref 19) 5 4 (.int (zI v)) k = k (zM (u2 I 19 4 v) A W) := rfl
set_option maxRecDepth 10000 in
theorem zg_19_5 {I : Nat → Nat → Int} {A : Nat → Int → Int} {W : qWt} {k : Int32 → qR} : q_gI (zM I A W) (.ref 19) 5 5 k = k (zI (I 19 5)) := rfl
set_option maxRecDepth 10000 in
theorem zp_19_5 {I : Nat → Nat → Int} {A : Nat → Int → Int} {W : qWt} {v : Int} {k : qH → qR} : q_pV (zM I A W) (.ref 19) 5 5 (.int (zI v)) k = k (zM (u2 I 19 5 v) A W) := rfl
set_option maxRecDepth 10000 in
theorem zl_20 {I : Nat → Nat → Int} {A : Nat → Int → Int} {W : qWt} {j : Int} {k : Int32 → qR} (h0 : 0 ≤ j) (h1 : j < 150) : q_ald (zM I A W) (.ref 20) 0 (zI j) k = k (zI (A 20 j)) := zx_ld rfl (by decide) h0 h1
set_option maxRecDepth 10000 in
theorem zs_20 {I : Nat → Nat → Int} {A : Nat → Int → Int} {W : qWt} {j x : Int} {k : qH → qR} (h0 : 0 ≤ j) (h1 : j < 150) : q_ast (zM I A W) (.ref 20) 0 (zI j) (zI x) k = k (zM I (ua A 20 (up (A 20) j x)) W) := zx_st rfl (by decide) (by decide) rfl h0 h1
set_option maxRecDepth 10000 in
theorem zn_20 {I : Nat → Nat → Int} {A : Nat → Int → Int} {W : qWt} {k : Int32 → qR} : q_len (zM I A W) (.ref 20) k = k (zI 150) := rfl
set_option maxRecDepth 10000 in
theorem zl_21 {I : Nat → Nat → Int} {A : Nat → Int → Int} {W : qWt} {j : Int} {k : Int32 → qR} (h0 : 0 ≤ j) (h1 : j < 150) : q_ald (zM I A W) (.ref 21) 0 (zI j) k = k (zI (A 21 j)) := zx_ld rfl (by decide) h0 h1
set_option maxRecDepth 10000 in
theorem zs_21 {I : Nat → Nat → Int} {A : Nat → Int → Int} {W : qWt} {j x : Int} {k : qH → qR} (h0 : 0 ≤ j) (h1 : j < 150) : q_ast (zM I A W) (.ref 21) 0 (zI j) (zI x) k = k (zM I (ua A 21 (up (A 21) j x)) W) := zx_st rfl (by decide) (by decide) rfl h0 h1
set_option maxRecDepth 10000 in
theorem zn_21 {I : Nat → Nat → Int} {A : Nat → Int → Int} {W : qWt} {k : Int32 → qR} : q_len (zM I A W) (.ref 21) k = k (zI 150) := rfl
set_option maxRecDepth 10000 in
theorem zl_22 {I : Nat → Nat → Int} {A : Nat → Int → Int} {W : qWt} {j : Int} {k : Int32 → qR} (h0 : 0 ≤ j) (h1 : j < 32) : q_ald (zM I A W) (.ref 22) 0 (zI j) k = k (zI (A 22 j)) := zx_ld rfl (by decide) h0 h1
set_option maxRecDepth 10000 in
theorem zs_22 {I : Nat → Nat → Int} {A : Nat → Int → Int} {W : qWt} {j x : Int} {k : qH → qR} (h0 : 0 ≤ j) (h1 : j < 32) : q_ast (zM I A W) (.ref 22) 0 (zI j) (zI x) k = k (zM I (ua A 22 (up (A 22) j x)) W) := zx_st rfl (by decide) (by decide) rfl h0 h1
set_option maxRecDepth 10000 in
theorem zn_22 {I : Nat → Nat → Int} {A : Nat → Int → Int} {W : qWt} {k : Int32 → qR} : q_len (zM I A W) (.ref 22) k = k (zI 32) := rfl
set_option maxRecDepth 10000 in
theorem zl_23 {I : Nat → Nat → Int} {A : Nat → Int → Int} {W : qWt} {j : Int} {k : Int32 → qR} (h0 : 0 ≤ j) (h1 : j < 9) : q_ald (zM I A W) (.ref 23) 0 (zI j) k = k (zI (A 23 j)) := zx_ld rfl (by decide) h0 h1
set_option maxRecDepth 10000 in
theorem zs_23 {I : Nat → Nat → Int} {A : Nat → Int → Int} {W : qWt} {j x : Int} {k : qH → qR} (h0 : 0 ≤ j) (h1 : j < 9) : q_ast (zM I A W) (.ref 23) 0 (zI j) (zI x) k = k (zM I (ua A 23 (up (A 23) j x)) W) := zx_st rfl (by decide) (by decide) rfl h0 h1
set_option maxRecDepth 10000 in
theorem zn_23 {I : Nat → Nat → Int} {A : Nat → Int → Int} {W : qWt} {k : Int32 → qR} : q_len (zM I A W) (.ref 23) k = k (zI 9) := rfl
set_option maxRecDepth 10000 in
theorem mc_24 {I : Nat → Nat → Int} {A : Nat → Int → Int} {W : qWt} {k : qR} : q_rcv (zM I A W) (.ref 24) 1 k = k := rfl
set_option maxRecDepth 10000 in
theorem zg_24_0 {I : Nat → Nat → Int} {A : Nat → Int → Int} {W : qWt} {k : Nat → qR} : q_gR (zM I A W) (.ref 24) 1 0 k = k 5 := rfl
set_option maxRecDepth 10000 in
theorem zg_24_1 {I : Nat → Nat → Int} {A : Nat → Int → Int} {W : qWt} {k : Nat → qR} : q_gR (zM I A W) (.ref 24) 1 1 k = k 19 := rfl
set_option maxRecDepth 10000 in
theorem zg_24_2 {I : Nat → Nat → Int} {A : Nat → Int → Int} {W : qWt} {k : Nat → qR} : q_gR (zM I A W) (.ref 24) 1 2 k = k 25 := rfl
set_option maxRecDepth 10000 in
theorem zg_24_3 {I : Nat → Nat → Int} {A : Nat → Int → Int} {W : qWt} {k : Nat → qR} : q_gR (zM I A W) (.ref 24) 1 3 k = k 26 := rfl
set_option maxRecDepth 10000 in
theorem zg_24_4 {I : Nat → Nat → Int} {A : Nat → Int → Int} {W : qWt} {k : Nat → qR} : q_gR (zM I A W) (.ref 24) 1 4 k = k 27 := rfl
set_option maxRecDepth 10000 in
theorem zg_24_5 {I : Nat → Nat → Int} {A : Nat → Int → Int} {W : qWt} {k : Nat → qR} : q_gR (zM I A W) (.ref 24) 1 5 k = k 28 := rfl
set_option maxRecDepth 10000 in
theorem zg_24_6 {I : Nat → Nat → Int} {A : Nat → Int → Int} {W : qWt} {k : Nat → qR} : q_gR (zM I A W) (.ref 24) 1 6 k = k 29 := rfl
set_option maxRecDepth 10000 in
theorem zg_24_7 {I : Nat → Nat → Int} {A : Nat → Int → Int} {W : qWt} {k : Int32 → qR} : q_gI (zM I A W) (.ref 24) 1 7 k = k (zI (I 24 7)) := rfl
set_option maxRecDepth 10000 in
theorem zp_24_7 {I : Nat → Nat → Int} {A : Nat → Int → Int} {W : qWt} {v : Int} {k : qH → qR} : q_pV (zM I A W) (.ref 24) 1 7 (.int (zI v)) k = k (zM (u2 I 24 7 v) A W) := rfl
set_option maxRecDepth 10000 in
theorem zg_24_8 {I : Nat → Nat → Int} {A : Nat → Int → Int} {W : qWt} {k : Int32 → qR} : q_gI (zM I A W) (.ref 24) 1 8 k = k (zI (I 24 8)) := rfl
set_option maxRecDepth 10000 in
theorem zp_24_8 {I : Nat → Nat → Int} {A : Nat → Int → Int} {W : qWt} {v : Int} {k : qH → qR} : q_pV (zM I A W) (.ref 24) 1 8 (.int (zI v)) k = k (zM (u2 I 24 8 v) A W) := rfl
set_option maxRecDepth 10000 in
theorem zl_25 {I : Nat → Nat → Int} {A : Nat → Int → Int} {W : qWt} {j : Int} {k : Int32 → qR} (h0 : 0 ≤ j) (h1 : j < 10) : q_ald (zM I A W) (.ref 25) 0 (zI j) k = k (zI (A 25 j)) := zx_ld rfl (by decide) h0 h1
set_option maxRecDepth 10000 in
theorem zs_25 {I : Nat → Nat → Int} {A : Nat → Int → Int} {W : qWt} {j x : Int} {k : qH → qR} (h0 : 0 ≤ j) (h1 : j < 10) : q_ast (zM I A W) (.ref 25) 0 (zI j) (zI x) k = k (zM I (ua A 25 (up (A 25) j x)) W) := zx_st rfl (by decide) (by decide) rfl h0 h1
set_option maxRecDepth 10000 in
theorem zn_25 {I : Nat → Nat → Int} {A : Nat → Int → Int} {W : qWt} {k : Int32 → qR} : q_len (zM I A W) (.ref 25) k = k (zI 10) := rfl
set_option maxRecDepth 10000 in
theorem zl_26 {I : Nat → Nat → Int} {A : Nat → Int → Int} {W : qWt} {j : Int} {k : Int32 → qR} (h0 : 0 ≤ j) (h1 : j < 10) : q_ald (zM I A W) (.ref 26) 0 (zI j) k = k (zI (A 26 j)) := zx_ld rfl (by decide) h0 h1
set_option maxRecDepth 10000 in
theorem zs_26 {I : Nat → Nat → Int} {A : Nat → Int → Int} {W : qWt} {j x : Int} {k : qH → qR} (h0 : 0 ≤ j) (h1 : j < 10) : q_ast (zM I A W) (.ref 26) 0 (zI j) (zI x) k = k (zM I (ua A 26 (up (A 26) j x)) W) := zx_st rfl (by decide) (by decide) rfl h0 h1
set_option maxRecDepth 10000 in
theorem zn_26 {I : Nat → Nat → Int} {A : Nat → Int → Int} {W : qWt} {k : Int32 → qR} : q_len (zM I A W) (.ref 26) k = k (zI 10) := rfl
set_option maxRecDepth 10000 in
theorem zl_27 {I : Nat → Nat → Int} {A : Nat → Int → Int} {W : qWt} {j : Int} {k : Int32 → qR} (h0 : 0 ≤ j) (h1 : j < 10) : q_ald (zM I A W) (.ref 27) 0 (zI j) k = k (zI (A 27 j)) := zx_ld rfl (by decide) h0 h1
set_option maxRecDepth 10000 in
theorem zs_27 {I : Nat → Nat → Int} {A : Nat → Int → Int} {W : qWt} {j x : Int} {k : qH → qR} (h0 : 0 ≤ j) (h1 : j < 10) : q_ast (zM I A W) (.ref 27) 0 (zI j) (zI x) k = k (zM I (ua A 27 (up (A 27) j x)) W) := zx_st rfl (by decide) (by decide) rfl h0 h1
set_option maxRecDepth 10000 in
theorem zn_27 {I : Nat → Nat → Int} {A : Nat → Int → Int} {W : qWt} {k : Int32 → qR} : q_len (zM I A W) (.ref 27) k = k (zI 10) := rfl
set_option maxRecDepth 10000 in
theorem zl_28 {I : Nat → Nat → Int} {A : Nat → Int → Int} {W : qWt} {j : Int} {k : Int32 → qR} (h0 : 0 ≤ j) (h1 : j < 5) : q_ald (zM I A W) (.ref 28) 0 (zI j) k = k (zI (A 28 j)) := zx_ld rfl (by decide) h0 h1
set_option maxRecDepth 10000 in
theorem zs_28 {I : Nat → Nat → Int} {A : Nat → Int → Int} {W : qWt} {j x : Int} {k : qH → qR} (h0 : 0 ≤ j) (h1 : j < 5) : q_ast (zM I A W) (.ref 28) 0 (zI j) (zI x) k = k (zM I (ua A 28 (up (A 28) j x)) W) := zx_st rfl (by decide) (by decide) rfl h0 h1
set_option maxRecDepth 10000 in
theorem zn_28 {I : Nat → Nat → Int} {A : Nat → Int → Int} {W : qWt} {k : Int32 → qR} : q_len (zM I A W) (.ref 28) k = k (zI 5) := rfl
set_option maxRecDepth 10000 in
theorem zl_29 {I : Nat → Nat → Int} {A : Nat → Int → Int} {W : qWt} {j : Int} {k : Int32 → qR} (h0 : 0 ≤ j) (h1 : j < 30) : q_ald (zM I A W) (.ref 29) 0 (zI j) k = k (zI (A 29 j)) := zx_ld rfl (by decide) h0 h1
set_option maxRecDepth 10000 in
theorem zs_29 {I : Nat → Nat → Int} {A : Nat → Int → Int} {W : qWt} {j x : Int} {k : qH → qR} (h0 : 0 ≤ j) (h1 : j < 30) : q_ast (zM I A W) (.ref 29) 0 (zI j) (zI x) k = k (zM I (ua A 29 (up (A 29) j x)) W) := zx_st rfl (by decide) (by decide) rfl h0 h1
set_option maxRecDepth 10000 in
theorem zn_29 {I : Nat → Nat → Int} {A : Nat → Int → Int} {W : qWt} {k : Int32 → qR} : q_len (zM I A W) (.ref 29) k = k (zI 30) := rfl
set_option maxRecDepth 10000 in
theorem mc_30 {I : Nat → Nat → Int} {A : Nat → Int → Int} {W : qWt} {k : qR} : q_rcv (zM I A W) (.ref 30) 1 k = k := rfl
set_option maxRecDepth 10000 in
theorem zg_30_0 {I : Nat → Nat → Int} {A : Nat → Int → Int} {W : qWt} {k : Nat → qR} : q_gR (zM I A W) (.ref 30) 1 0 k = k 5 := rfl
set_option maxRecDepth 10000 in
theorem zg_30_1 {I : Nat → Nat → Int} {A : Nat → Int → Int} {W : qWt} {k : Nat → qR} : q_gR (zM I A W) (.ref 30) 1 1 k = k 19 := rfl
set_option maxRecDepth 10000 in
theorem zg_30_2 {I : Nat → Nat → Int} {A : Nat → Int → Int} {W : qWt} {k : Nat → qR} : q_gR (zM I A W) (.ref 30) 1 2 k = k 31 := rfl
set_option maxRecDepth 10000 in
theorem zg_30_3 {I : Nat → Nat → Int} {A : Nat → Int → Int} {W : qWt} {k : Nat → qR} : q_gR (zM I A W) (.ref 30) 1 3 k = k 32 := rfl
set_option maxRecDepth 10000 in
theorem zg_30_4 {I : Nat → Nat → Int} {A : Nat → Int → Int} {W : qWt} {k : Nat → qR} : q_gR (zM I A W) (.ref 30) 1 4 k = k 33 := rfl
set_option maxRecDepth 10000 in
theorem zg_30_5 {I : Nat → Nat → Int} {A : Nat → Int → Int} {W : qWt} {k : Nat → qR} : q_gR (zM I A W) (.ref 30) 1 5 k = k 34 := rfl
set_option maxRecDepth 10000 in
theorem zg_30_6 {I : Nat → Nat → Int} {A : Nat → Int → Int} {W : qWt} {k : Nat → qR} : q_gR (zM I A W) (.ref 30) 1 6 k = k 35 := rfl
set_option maxRecDepth 10000 in
theorem zg_30_7 {I : Nat → Nat → Int} {A : Nat → Int → Int} {W : qWt} {k : Int32 → qR} : q_gI (zM I A W) (.ref 30) 1 7 k = k (zI (I 30 7)) := rfl
set_option maxRecDepth 10000 in
theorem zp_30_7 {I : Nat → Nat → Int} {A : Nat → Int → Int} {W : qWt} {v : Int} {k : qH → qR} : q_pV (zM I A W) (.ref 30) 1 7 (.int (zI v)) k = k (zM (u2 I 30 7 v) A W) := rfl
set_option maxRecDepth 10000 in
theorem zg_30_8 {I : Nat → Nat → Int} {A : Nat → Int → Int} {W : qWt} {k : Int32 → qR} : q_gI (zM I A W) (.ref 30) 1 8 k = k (zI (I 30 8)) := rfl
set_option maxRecDepth 10000 in
theorem zp_30_8 {I : Nat → Nat → Int} {A : Nat → Int → Int} {W : qWt} {v : Int} {k : qH → qR} : q_pV (zM I A W) (.ref 30) 1 8 (.int (zI v)) k = k (zM (u2 I 30 8 v) A W) := rfl
set_option maxRecDepth 10000 in
theorem zl_31 {I : Nat → Nat → Int} {A : Nat → Int → Int} {W : qWt} {j : Int} {k : Int32 → qR} (h0 : 0 ≤ j) (h1 : j < 10) : q_ald (zM I A W) (.ref 31) 0 (zI j) k = k (zI (A 31 j)) := zx_ld rfl (by decide) h0 h1
set_option maxRecDepth 10000 in
theorem zs_31 {I : Nat → Nat → Int} {A : Nat → Int → Int} {W : qWt} {j x : Int} {k : qH → qR} (h0 : 0 ≤ j) (h1 : j < 10) : q_ast (zM I A W) (.ref 31) 0 (zI j) (zI x) k = k (zM I (ua A 31 (up (A 31) j x)) W) := zx_st rfl (by decide) (by decide) rfl h0 h1
set_option maxRecDepth 10000 in
theorem zn_31 {I : Nat → Nat → Int} {A : Nat → Int → Int} {W : qWt} {k : Int32 → qR} : q_len (zM I A W) (.ref 31) k = k (zI 10) := rfl
set_option maxRecDepth 10000 in
theorem zl_32 {I : Nat → Nat → Int} {A : Nat → Int → Int} {W : qWt} {j : Int} {k : Int32 → qR} (h0 : 0 ≤ j) (h1 : j < 10) : q_ald (zM I A W) (.ref 32) 0 (zI j) k = k (zI (A 32 j)) := zx_ld rfl (by decide) h0 h1
set_option maxRecDepth 10000 in
theorem zs_32 {I : Nat → Nat → Int} {A : Nat → Int → Int} {W : qWt} {j x : Int} {k : qH → qR} (h0 : 0 ≤ j) (h1 : j < 10) : q_ast (zM I A W) (.ref 32) 0 (zI j) (zI x) k = k (zM I (ua A 32 (up (A 32) j x)) W) := zx_st rfl (by decide) (by decide) rfl h0 h1
set_option maxRecDepth 10000 in
theorem zn_32 {I : Nat → Nat → Int} {A : Nat → Int → Int} {W : qWt} {k : Int32 → qR} : q_len (zM I A W) (.ref 32) k = k (zI 10) := rfl
set_option maxRecDepth 10000 in
theorem zl_33 {I : Nat → Nat → Int} {A : Nat → Int → Int} {W : qWt} {j : Int} {k : Int32 → qR} (h0 : 0 ≤ j) (h1 : j < 10) : q_ald (zM I A W) (.ref 33) 0 (zI j) k = k (zI (A 33 j)) := zx_ld rfl (by decide) h0 h1
set_option maxRecDepth 10000 in
theorem zs_33 {I : Nat → Nat → Int} {A : Nat → Int → Int} {W : qWt} {j x : Int} {k : qH → qR} (h0 : 0 ≤ j) (h1 : j < 10) : q_ast (zM I A W) (.ref 33) 0 (zI j) (zI x) k = k (zM I (ua A 33 (up (A 33) j x)) W) := zx_st rfl (by decide) (by decide) rfl h0 h1
set_option maxRecDepth 10000 in
theorem zn_33 {I : Nat → Nat → Int} {A : Nat → Int → Int} {W : qWt} {k : Int32 → qR} : q_len (zM I A W) (.ref 33) k = k (zI 10) := rfl
set_option maxRecDepth 10000 in
theorem zl_34 {I : Nat → Nat → Int} {A : Nat → Int → Int} {W : qWt} {j : Int} {k : Int32 → qR} (h0 : 0 ≤ j) (h1 : j < 5) : q_ald (zM I A W) (.ref 34) 0 (zI j) k = k (zI (A 34 j)) := zx_ld rfl (by decide) h0 h1
set_option maxRecDepth 10000 in
theorem zs_34 {I : Nat → Nat → Int} {A : Nat → Int → Int} {W : qWt} {j x : Int} {k : qH → qR} (h0 : 0 ≤ j) (h1 : j < 5) : q_ast (zM I A W) (.ref 34) 0 (zI j) (zI x) k = k (zM I (ua A 34 (up (A 34) j x)) W) := zx_st rfl (by decide) (by decide) rfl h0 h1
set_option maxRecDepth 10000 in
theorem zn_34 {I : Nat → Nat → Int} {A : Nat → Int → Int} {W : qWt} {k : Int32 → qR} : q_len (zM I A W) (.ref 34) k = k (zI 5) := rfl
set_option maxRecDepth 10000 in
theorem zl_35 {I : Nat → Nat → Int} {A : Nat → Int → Int} {W : qWt} {j : Int} {k : Int32 → qR} (h0 : 0 ≤ j) (h1 : j < 30) : q_ald (zM I A W) (.ref 35) 0 (zI j) k = k (zI (A 35 j)) := zx_ld rfl (by decide) h0 h1
set_option maxRecDepth 10000 in
theorem zs_35 {I : Nat → Nat → Int} {A : Nat → Int → Int} {W : qWt} {j x : Int} {k : qH → qR} (h0 : 0 ≤ j) (h1 : j < 30) : q_ast (zM I A W) (.ref 35) 0 (zI j) (zI x) k = k (zM I (ua A 35 (up (A 35) j x)) W) := zx_st rfl (by decide) (by decide) rfl h0 h1
set_option maxRecDepth 10000 in
theorem zn_35 {I : Nat → Nat → Int} {A : Nat → Int → Int} {W : qWt} {k : Int32 → qR} : q_len (zM I A W) (.ref 35) k = k (zI 30) := rfl
set_option maxRecDepth 10000 in
theorem mc_36 {I : Nat → Nat → Int} {A : Nat → Int → Int} {W : qWt} {k : qR} : q_rcv (zM I A W) (.ref 36) 2 k = k := rfl
set_option maxRecDepth 10000 in
theorem zg_36_0 {I : Nat → Nat → Int} {A : Nat → Int → Int} {W : qWt} {k : Nat → qR} : q_gR (zM I A W) (.ref 36) 2 0 k = k 24 := rfl
set_option maxRecDepth 10000 in
theorem zg_36_1 {I : Nat → Nat → Int} {A : Nat → Int → Int} {W : qWt} {k : Nat → qR} : q_gR (zM I A W) (.ref 36) 2 1 k = k 19 := rfl
set_option maxRecDepth 10000 in
theorem zg_36_2 {I : Nat → Nat → Int} {A : Nat → Int → Int} {W : qWt} {k : Nat → qR} : q_gR (zM I A W) (.ref 36) 2 2 k = k 37 := rfl
set_option maxRecDepth 10000 in
theorem zg_36_3 {I : Nat → Nat → Int} {A : Nat → Int → Int} {W : qWt} {k : Nat → qR} : q_gR (zM I A W) (.ref 36) 2 3 k = k 38 := rfl
set_option maxRecDepth 10000 in
theorem zg_36_4 {I : Nat → Nat → Int} {A : Nat → Int → Int} {W : qWt} {k : Nat → qR} : q_gR (zM I A W) (.ref 36) 2 4 k = k 39 := rfl
set_option maxRecDepth 10000 in
theorem zg_36_5 {I : Nat → Nat → Int} {A : Nat → Int → Int} {W : qWt} {k : Nat → qR} : q_gR (zM I A W) (.ref 36) 2 5 k = k 40 := rfl
set_option maxRecDepth 10000 in
theorem zg_36_6 {I : Nat → Nat → Int} {A : Nat → Int → Int} {W : qWt} {k : Int32 → qR} : q_gI (zM I A W) (.ref 36) 2 6 k = k (zI (I 36 6)) := rfl
set_option maxRecDepth 10000 in
theorem zp_36_6 {I : Nat → Nat → Int} {A : Nat → Int → Int} {W : qWt} {v : Int} {k : qH → qR} : q_pV (zM I A W) (.ref 36) 2 6 (.int (zI v)) k = k (zM (u2 I 36 6 v) A W) := rfl
set_option maxRecDepth 10000 in
theorem zg_36_7 {I : Nat → Nat → Int} {A : Nat → Int → Int} {W : qWt} {k : Int32 → qR} : q_gI (zM I A W) (.ref 36) 2 7 k = k (zI (I 36 7)) := rfl
set_option maxRecDepth 10000 in
theorem zp_36_7 {I : Nat → Nat → Int} {A : Nat → Int → Int} {W : qWt} {v : Int} {k : qH → qR} : q_pV (zM I A W) (.ref 36) 2 7 (.int (zI v)) k = k (zM (u2 I 36 7 v) A W) := rfl
set_option maxRecDepth 10000 in
theorem zg_36_8 {I : Nat → Nat → Int} {A : Nat → Int → Int} {W : qWt} {k : Int32 → qR} : q_gI (zM I A W) (.ref 36) 2 8 k = k (zI (I 36 8)) := rfl
set_option maxRecDepth 10000 in
theorem zp_36_8 {I : Nat → Nat → Int} {A : Nat → Int → Int} {W : qWt} {v : Int} {k : qH → qR} : q_pV (zM I A W) (.ref 36) 2 8 (.int (zI v)) k = k (zM (u2 I 36 8 v) A W) := rfl
set_option maxRecDepth 10000 in
theorem zg_36_9 {I : Nat → Nat → Int} {A : Nat → Int → Int} {W : qWt} {k : Int32 → qR} : q_gI (zM I A W) (.ref 36) 2 9 k = k (zI (I 36 9)) := rfl
set_option maxRecDepth 10000 in
theorem zp_36_9 {I : Nat → Nat → Int} {A : Nat → Int → Int} {W : qWt} {v : Int} {k : qH → qR} : q_pV (zM I A W) (.ref 36) 2 9 (.int (zI v)) k = k (zM (u2 I 36 9 v) A W) := rfl
set_option maxRecDepth 10000 in
theorem zg_36_10 {I : Nat → Nat → Int} {A : Nat → Int → Int} {W : qWt} {k : Int32 → qR} : q_gI (zM I A W) (.ref 36) 2 10 k = k (zI (I 36 10)) := rfl
set_option maxRecDepth 10000 in
theorem zp_36_10 {I : Nat → Nat → Int} {A : Nat → Int → Int} {W : qWt} {v : Int} {k : qH → qR} : q_pV (zM I A W) (.ref 36) 2 10 (.int (zI v)) k = k (zM (u2 I 36 10 v) A W) := rfl
set_option maxRecDepth 10000 in
theorem zl_37 {I : Nat → Nat → Int} {A : Nat → Int → Int} {W : qWt} {j : Int} {k : Int32 → qR} (h0 : 0 ≤ j) (h1 : j < 10) : q_ald (zM I A W) (.ref 37) 0 (zI j) k = k (zI (A 37 j)) := zx_ld rfl (by decide) h0 h1
set_option maxRecDepth 10000 in
theorem zs_37 {I : Nat → Nat → Int} {A : Nat → Int → Int} {W : qWt} {j x : Int} {k : qH → qR} (h0 : 0 ≤ j) (h1 : j < 10) : q_ast (zM I A W) (.ref 37) 0 (zI j) (zI x) k = k (zM I (ua A 37 (up (A 37) j x)) W) := zx_st rfl (by decide) (by decide) rfl h0 h1
set_option maxRecDepth 10000 in
theorem zn_37 {I : Nat → Nat → Int} {A : Nat → Int → Int} {W : qWt} {k : Int32 → qR} : q_len (zM I A W) (.ref 37) k = k (zI 10) := rfl
set_option maxRecDepth 10000 in
theorem zl_38 {I : Nat → Nat → Int} {A : Nat → Int → Int} {W : qWt} {j : Int} {k : Int32 → qR} (h0 : 0 ≤ j) (h1 : j < 10) : q_ald (zM I A W) (.ref 38) 0 (zI j) k = k (zI (A 38 j)) := zx_ld rfl (by decide) h0 h1
set_option maxRecDepth 10000 in
theorem zs_38 {I : Nat → Nat → Int} {A : Nat → Int → Int} {W : qWt} {j x : Int} {k : qH → qR} (h0 : 0 ≤ j) (h1 : j < 10) : q_ast (zM I A W) (.ref 38) 0 (zI j) (zI x) k = k (zM I (ua A 38 (up (A 38) j x)) W) := zx_st rfl (by decide) (by decide) rfl h0 h1
set_option maxRecDepth 10000 in
theorem zn_38 {I : Nat → Nat → Int} {A : Nat → Int → Int} {W : qWt} {k : Int32 → qR} : q_len (zM I A W) (.ref 38) k = k (zI 10) := rfl
set_option maxRecDepth 10000 in
theorem zl_39 {I : Nat → Nat → Int} {A : Nat → Int → Int} {W : qWt} {j : Int} {k : Int32 → qR} (h0 : 0 ≤ j) (h1 : j < 100) : q_ald (zM I A W) (.ref 39) 0 (zI j) k = k (zI (A 39 j)) := zx_ld rfl (by decide) h0 h1
set_option maxRecDepth 10000 in
theorem zs_39 {I : Nat → Nat → Int} {A : Nat → Int → Int} {W : qWt} {j x : Int} {k : qH → qR} (h0 : 0 ≤ j) (h1 : j < 100) : q_ast (zM I A W) (.ref 39) 0 (zI j) (zI x) k = k (zM I (ua A 39 (up (A 39) j x)) W) := zx_st rfl (by decide) (by decide) rfl h0 h1
set_option maxRecDepth 10000 in
theorem zn_39 {I : Nat → Nat → Int} {A : Nat → Int → Int} {W : qWt} {k : Int32 → qR} : q_len (zM I A W) (.ref 39) k = k (zI 100) := rfl
set_option maxRecDepth 10000 in
theorem zl_40 {I : Nat → Nat → Int} {A : Nat → Int → Int} {W : qWt} {j : Int} {k : Int32 → qR} (h0 : 0 ≤ j) (h1 : j < 61) : q_ald (zM I A W) (.ref 40) 0 (zI j) k = k (zI (A 40 j)) := zx_ld rfl (by decide) h0 h1
set_option maxRecDepth 10000 in
theorem zs_40 {I : Nat → Nat → Int} {A : Nat → Int → Int} {W : qWt} {j x : Int} {k : qH → qR} (h0 : 0 ≤ j) (h1 : j < 61) : q_ast (zM I A W) (.ref 40) 0 (zI j) (zI x) k = k (zM I (ua A 40 (up (A 40) j x)) W) := zx_st rfl (by decide) (by decide) rfl h0 h1
set_option maxRecDepth 10000 in
theorem zn_40 {I : Nat → Nat → Int} {A : Nat → Int → Int} {W : qWt} {k : Int32 → qR} : q_len (zM I A W) (.ref 40) k = k (zI 61) := rfl
set_option maxRecDepth 10000 in
theorem mc_41 {I : Nat → Nat → Int} {A : Nat → Int → Int} {W : qWt} {k : qR} : q_rcv (zM I A W) (.ref 41) 8 k = k := rfl
set_option maxRecDepth 10000 in
theorem zg_41_0 {I : Nat → Nat → Int} {A : Nat → Int → Int} {W : qWt} {k : Nat → qR} : q_gR (zM I A W) (.ref 41) 8 0 k = k 42 := rfl
set_option maxRecDepth 10000 in
theorem zg_41_1 {I : Nat → Nat → Int} {A : Nat → Int → Int} {W : qWt} {k : Nat → qR} : q_gR (zM I A W) (.ref 41) 8 1 k = k 43 := rfl
set_option maxRecDepth 10000 in
theorem zg_41_2 {I : Nat → Nat → Int} {A : Nat → Int → Int} {W : qWt} {k : Nat → qR} : q_gR (zM I A W) (.ref 41) 8 2 k = k 44 := rfl
set_option maxRecDepth 10000 in
theorem zg_41_3 {I : Nat → Nat → Int} {A : Nat → Int → Int} {W : qWt} {k : Int32 → qR} : q_gI (zM I A W) (.ref 41) 8 3 k = k (zI (I 41 3)) := rfl
set_option maxRecDepth 10000 in
theorem zp_41_3 {I : Nat → Nat → Int} {A : Nat → Int → Int} {W : qWt} {v : Int} {k : qH → qR} : q_pV (zM I A W) (.ref 41) 8 3 (.int (zI v)) k = k (zM (u2 I 41 3 v) A W) := rfl
set_option maxRecDepth 10000 in
theorem zg_41_4 {I : Nat → Nat → Int} {A : Nat → Int → Int} {W : qWt} {k : Int32 → qR} : q_gI (zM I A W) (.ref 41) 8 4 k = k (zI (I 41 4)) := rfl
set_option maxRecDepth 10000 in
theorem zp_41_4 {I : Nat → Nat → Int} {A : Nat → Int → Int} {W : qWt} {v : Int} {k : qH → qR} : q_pV (zM I A W) (.ref 41) 8 4 (.int (zI v)) k = k (zM (u2 I 41 4 v) A W) := rfl
set_option maxRecDepth 10000 in
theorem zg_41_5 {I : Nat → Nat → Int} {A : Nat → Int → Int} {W : qWt} {k : Int32 → qR} : q_gI (zM I A W) (.ref 41) 8 5 k = k (zI (I 41 5)) := rfl
set_option maxRecDepth 10000 in
theorem zp_41_5 {I : Nat → Nat → Int} {A : Nat → Int → Int} {W : qWt} {v : Int} {k : qH → qR} : q_pV (zM I A W) (.ref 41) 8 5 (.int (zI v)) k = k (zM (u2 I 41 5 v) A W) := rfl
set_option maxRecDepth 10000 in
theorem zg_41_6 {I : Nat → Nat → Int} {A : Nat → Int → Int} {W : qWt} {k : Int32 → qR} : q_gI (zM I A W) (.ref 41) 8 6 k = k (zI (I 41 6)) := rfl
set_option maxRecDepth 10000 in
theorem zp_41_6 {I : Nat → Nat → Int} {A : Nat → Int → Int} {W : qWt} {v : Int} {k : qH → qR} : q_pV (zM I A W) (.ref 41) 8 6 (.int (zI v)) k = k (zM (u2 I 41 6 v) A W) := rfl
set_option maxRecDepth 10000 in
theorem zg_41_7 {I : Nat → Nat → Int} {A : Nat → Int → Int} {W : qWt} {k : Int32 → qR} : q_gI (zM I A W) (.ref 41) 8 7 k = k (zI (I 41 7)) := rfl
set_option maxRecDepth 10000 in
theorem zp_41_7 {I : Nat → Nat → Int} {A : Nat → Int → Int} {W : qWt} {v : Int} {k : qH → qR} : q_pV (zM I A W) (.ref 41) 8 7 (.int (zI v)) k = k (zM (u2 I 41 7 v) A W) := rfl
set_option maxRecDepth 10000 in
theorem zl_42 {I : Nat → Nat → Int} {A : Nat → Int → Int} {W : qWt} {j : Int} {k : Int32 → qR} (h0 : 0 ≤ j) (h1 : j < 38) : q_ald (zM I A W) (.ref 42) 0 (zI j) k = k (zI (A 42 j)) := zx_ld rfl (by decide) h0 h1
set_option maxRecDepth 10000 in
theorem zs_42 {I : Nat → Nat → Int} {A : Nat → Int → Int} {W : qWt} {j x : Int} {k : qH → qR} (h0 : 0 ≤ j) (h1 : j < 38) : q_ast (zM I A W) (.ref 42) 0 (zI j) (zI x) k = k (zM I (ua A 42 (up (A 42) j x)) W) := zx_st rfl (by decide) (by decide) rfl h0 h1
set_option maxRecDepth 10000 in
theorem zn_42 {I : Nat → Nat → Int} {A : Nat → Int → Int} {W : qWt} {k : Int32 → qR} : q_len (zM I A W) (.ref 42) k = k (zI 38) := rfl
set_option maxRecDepth 10000 in
theorem zl_43 {I : Nat → Nat → Int} {A : Nat → Int → Int} {W : qWt} {j : Int} {k : Int32 → qR} (h0 : 0 ≤ j) (h1 : j < 38) : q_ald (zM I A W) (.ref 43) 0 (zI j) k = k (zI (A 43 j)) := zx_ld rfl (by decide) h0 h1
set_option maxRecDepth 10000 in
theorem zs_43 {I : Nat → Nat → Int} {A : Nat → Int → Int} {W : qWt} {j x : Int} {k : qH → qR} (h0 : 0 ≤ j) (h1 : j < 38) : q_ast (zM I A W) (.ref 43) 0 (zI j) (zI x) k = k (zM I (ua A 43 (up (A 43) j x)) W) := zx_st rfl (by decide) (by decide) rfl h0 h1
set_option maxRecDepth 10000 in
theorem zn_43 {I : Nat → Nat → Int} {A : Nat → Int → Int} {W : qWt} {k : Int32 → qR} : q_len (zM I A W) (.ref 43) k = k (zI 38) := rfl
set_option maxRecDepth 10000 in
theorem zl_44 {I : Nat → Nat → Int} {A : Nat → Int → Int} {W : qWt} {j : Int} {k : Int32 → qR} (h0 : 0 ≤ j) (h1 : j < 38) : q_ald (zM I A W) (.ref 44) 0 (zI j) k = k (zI (A 44 j)) := zx_ld rfl (by decide) h0 h1
set_option maxRecDepth 10000 in
theorem zs_44 {I : Nat → Nat → Int} {A : Nat → Int → Int} {W : qWt} {j x : Int} {k : qH → qR} (h0 : 0 ≤ j) (h1 : j < 38) : q_ast (zM I A W) (.ref 44) 0 (zI j) (zI x) k = k (zM I (ua A 44 (up (A 44) j x)) W) := zx_st rfl (by decide) (by decide) rfl h0 h1
set_option maxRecDepth 10000 in
theorem zn_44 {I : Nat → Nat → Int} {A : Nat → Int → Int} {W : qWt} {k : Int32 → qR} : q_len (zM I A W) (.ref 44) k = k (zI 38) := rfl
set_option maxRecDepth 10000 in
theorem mc_45 {I : Nat → Nat → Int} {A : Nat → Int → Int} {W : qWt} {k : qR} : q_rcv (zM I A W) (.ref 45) 0 k = k := rfl
set_option maxRecDepth 10000 in
theorem zg_45_0 {I : Nat → Nat → Int} {A : Nat → Int → Int} {W : qWt} {k : Nat → qR} : q_gR (zM I A W) (.ref 45) 0 0 k = k 5 := rfl
set_option maxRecDepth 10000 in
theorem zg_45_1 {I : Nat → Nat → Int} {A : Nat → Int → Int} {W : qWt} {k : Nat → qR} : q_gR (zM I A W) (.ref 45) 0 1 k = k 24 := rfl
set_option maxRecDepth 10000 in
theorem zg_45_2 {I : Nat → Nat → Int} {A : Nat → Int → Int} {W : qWt} {k : Nat → qR} : q_gR (zM I A W) (.ref 45) 0 2 k = k 19 := rfl
set_option maxRecDepth 10000 in
theorem zg_45_3 {I : Nat → Nat → Int} {A : Nat → Int → Int} {W : qWt} {k : Nat → qR} : q_gR (zM I A W) (.ref 45) 0 3 k = k 46 := rfl
set_option maxRecDepth 10000 in
theorem zg_45_4 {I : Nat → Nat → Int} {A : Nat → Int → Int} {W : qWt} {k : Nat → qR} : q_gR (zM I A W) (.ref 45) 0 4 k = k 47 := rfl
set_option maxRecDepth 10000 in
theorem zg_45_5 {I : Nat → Nat → Int} {A : Nat → Int → Int} {W : qWt} {k : Nat → qR} : q_gR (zM I A W) (.ref 45) 0 5 k = k 48 := rfl
set_option maxRecDepth 10000 in
theorem zg_45_6 {I : Nat → Nat → Int} {A : Nat → Int → Int} {W : qWt} {k : Nat → qR} : q_gR (zM I A W) (.ref 45) 0 6 k = k 49 := rfl
set_option maxRecDepth 10000 in
theorem zg_45_7 {I : Nat → Nat → Int} {A : Nat → Int → Int} {W : qWt} {k : Nat → qR} : q_gR (zM I A W) (.ref 45) 0 7 k = k 50 := rfl
set_option maxRecDepth 10000 in
theorem zg_45_8 {I : Nat → Nat → Int} {A : Nat → Int → Int} {W : qWt} {k : Int32 → qR} : q_gI (zM I A W) (.ref 45) 0 8 k = k (zI (I 45 8)) := rfl
set_option maxRecDepth 10000 in
theorem zp_45_8 {I : Nat → Nat → Int} {A : Nat → Int → Int} {W : qWt} {v : Int} {k : qH → qR} : q_pV (zM I A W) (.ref 45) 0 8 (.int (zI v)) k = k (zM (u2 I 45 8 v) A W) := rfl
set_option maxRecDepth 10000 in
theorem zg_45_9 {I : Nat → Nat → Int} {A : Nat → Int → Int} {W : qWt} {k : Int32 → qR} : q_gI (zM I A W) (.ref 45) 0 9 k = k (zI (I 45 9)) := rfl
set_option maxRecDepth 10000 in
theorem zp_45_9 {I : Nat → Nat → Int} {A : Nat → Int → Int} {W : qWt} {v : Int} {k : qH → qR} : q_pV (zM I A W) (.ref 45) 0 9 (.int (zI v)) k = k (zM (u2 I 45 9 v) A W) := rfl
set_option maxRecDepth 10000 in
theorem zg_45_10 {I : Nat → Nat → Int} {A : Nat → Int → Int} {W : qWt} {k : Int32 → qR} : q_gI (zM I A W) (.ref 45) 0 10 k = k (zI (I 45 10)) := rfl
set_option maxRecDepth 10000 in
theorem zp_45_10 {I : Nat → Nat → Int} {A : Nat → Int → Int} {W : qWt} {v : Int} {k : qH → qR} : q_pV (zM I A W) (.ref 45) 0 10 (.int (zI v)) k = k (zM (u2 I 45 10 v) A W) := rfl
set_option maxRecDepth 10000 in
theorem zg_45_11 {I : Nat → Nat → Int} {A : Nat → Int → Int} {W : qWt} {k : Int32 → qR} : q_gI (zM I A W) (.ref 45) 0 11 k = k (zI (I 45 11)) := rfl
set_option maxRecDepth 10000 in
theorem zp_45_11 {I : Nat → Nat → Int} {A : Nat → Int → Int} {W : qWt} {v : Int} {k : qH → qR} : q_pV (zM I A W) (.ref 45) 0 11 (.int (zI v)) k = k (zM (u2 I 45 11 v) A W) := rfl
set_option maxRecDepth 10000 in
theorem zg_45_12 {I : Nat → Nat → Int} {A : Nat → Int → Int} {W : qWt} {k : Int32 → qR} : q_gI (zM I A W) (.ref 45) 0 12 k = k (zI (I 45 12)) := rfl
set_option maxRecDepth 10000 in
theorem zp_45_12 {I : Nat → Nat → Int} {A : Nat → Int → Int} {W : qWt} {v : Int} {k : qH → qR} : q_pV (zM I A W) (.ref 45) 0 12 (.int (zI v)) k = k (zM (u2 I 45 12 v) A W) := rfl
set_option maxRecDepth 10000 in
theorem zl_46 {I : Nat → Nat → Int} {A : Nat → Int → Int} {W : qWt} {j : Int} {k : Int32 → qR} (h0 : 0 ≤ j) (h1 : j < 30) : q_ald (zM I A W) (.ref 46) 0 (zI j) k = k (zI (A 46 j)) := zx_ld rfl (by decide) h0 h1
set_option maxRecDepth 10000 in
theorem zs_46 {I : Nat → Nat → Int} {A : Nat → Int → Int} {W : qWt} {j x : Int} {k : qH → qR} (h0 : 0 ≤ j) (h1 : j < 30) : q_ast (zM I A W) (.ref 46) 0 (zI j) (zI x) k = k (zM I (ua A 46 (up (A 46) j x)) W) := zx_st rfl (by decide) (by decide) rfl h0 h1
set_option maxRecDepth 10000 in
theorem zn_46 {I : Nat → Nat → Int} {A : Nat → Int → Int} {W : qWt} {k : Int32 → qR} : q_len (zM I A W) (.ref 46) k = k (zI 30) := rfl
set_option maxRecDepth 10000 in
theorem zl_47 {I : Nat → Nat → Int} {A : Nat → Int → Int} {W : qWt} {j : Int} {k : Int32 → qR} (h0 : 0 ≤ j) (h1 : j < 30) : q_ald (zM I A W) (.ref 47) 0 (zI j) k = k (zI (A 47 j)) := zx_ld rfl (by decide) h0 h1
set_option maxRecDepth 10000 in
theorem zs_47 {I : Nat → Nat → Int} {A : Nat → Int → Int} {W : qWt} {j x : Int} {k : qH → qR} (h0 : 0 ≤ j) (h1 : j < 30) : q_ast (zM I A W) (.ref 47) 0 (zI j) (zI x) k = k (zM I (ua A 47 (up (A 47) j x)) W) := zx_st rfl (by decide) (by decide) rfl h0 h1
set_option maxRecDepth 10000 in
theorem zn_47 {I : Nat → Nat → Int} {A : Nat → Int → Int} {W : qWt} {k : Int32 → qR} : q_len (zM I A W) (.ref 47) k = k (zI 30) := rfl
set_option maxRecDepth 10000 in
theorem zl_48 {I : Nat → Nat → Int} {A : Nat → Int → Int} {W : qWt} {j : Int} {k : Int32 → qR} (h0 : 0 ≤ j) (h1 : j < 30) : q_ald (zM I A W) (.ref 48) 0 (zI j) k = k (zI (A 48 j)) := zx_ld rfl (by decide) h0 h1
set_option maxRecDepth 10000 in
theorem zs_48 {I : Nat → Nat → Int} {A : Nat → Int → Int} {W : qWt} {j x : Int} {k : qH → qR} (h0 : 0 ≤ j) (h1 : j < 30) : q_ast (zM I A W) (.ref 48) 0 (zI j) (zI x) k = k (zM I (ua A 48 (up (A 48) j x)) W) := zx_st rfl (by decide) (by decide) rfl h0 h1
set_option maxRecDepth 10000 in
theorem zn_48 {I : Nat → Nat → Int} {A : Nat → Int → Int} {W : qWt} {k : Int32 → qR} : q_len (zM I A W) (.ref 48) k = k (zI 30) := rfl
set_option maxRecDepth 10000 in
theorem zl_49 {I : Nat → Nat → Int} {A : Nat → Int → Int} {W : qWt} {j : Int} {k : Int32 → qR} (h0 : 0 ≤ j) (h1 : j < 4) : q_ald (zM I A W) (.ref 49) 0 (zI j) k = k (zI (A 49 j)) := zx_ld rfl (by decide) h0 h1
set_option maxRecDepth 10000 in
theorem zs_49 {I : Nat → Nat → Int} {A : Nat → Int → Int} {W : qWt} {j x : Int} {k : qH → qR} (h0 : 0 ≤ j) (h1 : j < 4) : q_ast (zM I A W) (.ref 49) 0 (zI j) (zI x) k = k (zM I (ua A 49 (up (A 49) j x)) W) := zx_st rfl (by decide) (by decide) rfl h0 h1
set_option maxRecDepth 10000 in
theorem zn_49 {I : Nat → Nat → Int} {A : Nat → Int → Int} {W : qWt} {k : Int32 → qR} : q_len (zM I A W) (.ref 49) k = k (zI 4) := rfl
set_option maxRecDepth 10000 in
theorem zl_50 {I : Nat → Nat → Int} {A : Nat → Int → Int} {W : qWt} {j : Int} {k : Int32 → qR} (h0 : 0 ≤ j) (h1 : j < 4) : q_ald (zM I A W) (.ref 50) 0 (zI j) k = k (zI (A 50 j)) := zx_ld rfl (by decide) h0 h1
set_option maxRecDepth 10000 in
theorem zs_50 {I : Nat → Nat → Int} {A : Nat → Int → Int} {W : qWt} {j x : Int} {k : qH → qR} (h0 : 0 ≤ j) (h1 : j < 4) : q_ast (zM I A W) (.ref 50) 0 (zI j) (zI x) k = k (zM I (ua A 50 (up (A 50) j x)) W) := zx_st rfl (by decide) (by decide) rfl h0 h1
set_option maxRecDepth 10000 in
theorem zn_50 {I : Nat → Nat → Int} {A : Nat → Int → Int} {W : qWt} {k : Int32 → qR} : q_len (zM I A W) (.ref 50) k = k (zI 4) := rfl
set_option maxRecDepth 10000 in
theorem mc_51 {I : Nat → Nat → Int} {A : Nat → Int → Int} {W : qWt} {k : qR} : q_rcv (zM I A W) (.ref 51) 3 k = k := rfl
set_option maxRecDepth 10000 in
theorem zg_51_0 {I : Nat → Nat → Int} {A : Nat → Int → Int} {W : qWt} {k : Nat → qR} : q_gR (zM I A W) (.ref 51) 3 0 k = k 5 := rfl
set_option maxRecDepth 10000 in
theorem zg_51_1 {I : Nat → Nat → Int} {A : Nat → Int → Int} {W : qWt} {k : Nat → qR} : q_gR (zM I A W) (.ref 51) 3 1 k = k 24 := rfl
set_option maxRecDepth 10000 in
theorem zg_51_2 {I : Nat → Nat → Int} {A : Nat → Int → Int} {W : qWt} {k : Nat → qR} : q_gR (zM I A W) (.ref 51) 3 2 k = k 52 := rfl
set_option maxRecDepth 10000 in
theorem zg_51_3 {I : Nat → Nat → Int} {A : Nat → Int → Int} {W : qWt} {k : Nat → qR} : q_gR (zM I A W) (.ref 51) 3 3 k = k 53 := rfl
set_option maxRecDepth 10000 in
theorem zg_51_4 {I : Nat → Nat → Int} {A : Nat → Int → Int} {W : qWt} {k : Nat → qR} : q_gR (zM I A W) (.ref 51) 3 4 k = k 54 := rfl
set_option maxRecDepth 10000 in
theorem zg_51_5 {I : Nat → Nat → Int} {A : Nat → Int → Int} {W : qWt} {k : Nat → qR} : q_gR (zM I A W) (.ref 51) 3 5 k = k 55 := rfl
set_option maxRecDepth 10000 in
theorem zg_51_6 {I : Nat → Nat → Int} {A : Nat → Int → Int} {W : qWt} {k : Int32 → qR} : q_gI (zM I A W) (.ref 51) 3 6 k = k (zI (I 51 6)) := rfl
set_option maxRecDepth 10000 in
theorem zp_51_6 {I : Nat → Nat → Int} {A : Nat → Int → Int} {W : qWt} {v : Int} {k : qH → qR} : q_pV (zM I A W) (.ref 51) 3 6 (.int (zI v)) k = k (zM (u2 I 51 6 v) A W) := rfl
set_option maxRecDepth 10000 in
theorem zg_51_7 {I : Nat → Nat → Int} {A : Nat → Int → Int} {W : qWt} {k : Int32 → qR} : q_gI (zM I A W) (.ref 51) 3 7 k = k (zI (I 51 7)) := rfl
set_option maxRecDepth 10000 in
theorem zp_51_7 {I : Nat → Nat → Int} {A : Nat → Int → Int} {W : qWt} {v : Int} {k : qH → qR} : q_pV (zM I A W) (.ref 51) 3 7 (.int (zI v)) k = k (zM (u2 I 51 7 v) A W) := rfl
set_option maxRecDepth 10000 in
theorem zg_51_8 {I : Nat → Nat → Int} {A : Nat → Int → Int} {W : qWt} {k : Int32 → qR} : q_gI (zM I A W) (.ref 51) 3 8 k = k (zI (I 51 8)) := rfl
set_option maxRecDepth 10000 in
theorem zp_51_8 {I : Nat → Nat → Int} {A : Nat → Int → Int} {W : qWt} {v : Int} {k : qH → qR} : q_pV (zM I A W) (.ref 51) 3 8 (.int (zI v)) k = k (zM (u2 I 51 8 v) A W) := rfl
set_option maxRecDepth 10000 in
theorem zg_51_9 {I : Nat → Nat → Int} {A : Nat → Int → Int} {W : qWt} {k : Int32 → qR} : q_gI (zM I A W) (.ref 51) 3 9 k = k (zI (I 51 9)) := rfl
set_option maxRecDepth 10000 in
theorem zp_51_9 {I : Nat → Nat → Int} {A : Nat → Int → Int} {W : qWt} {v : Int} {k : qH → qR} : q_pV (zM I A W) (.ref 51) 3 9 (.int (zI v)) k = k (zM (u2 I 51 9 v) A W) := rfl
set_option maxRecDepth 10000 in
theorem zl_52 {I : Nat → Nat → Int} {A : Nat → Int → Int} {W : qWt} {j : Int} {k : Int32 → qR} (h0 : 0 ≤ j) (h1 : j < 10) : q_ald (zM I A W) (.ref 52) 0 (zI j) k = k (zI (A 52 j)) := zx_ld rfl (by decide) h0 h1
set_option maxRecDepth 10000 in
theorem zs_52 {I : Nat → Nat → Int} {A : Nat → Int → Int} {W : qWt} {j x : Int} {k : qH → qR} (h0 : 0 ≤ j) (h1 : j < 10) : q_ast (zM I A W) (.ref 52) 0 (zI j) (zI x) k = k (zM I (ua A 52 (up (A 52) j x)) W) := zx_st rfl (by decide) (by decide) rfl h0 h1
set_option maxRecDepth 10000 in
theorem zn_52 {I : Nat → Nat → Int} {A : Nat → Int → Int} {W : qWt} {k : Int32 → qR} : q_len (zM I A W) (.ref 52) k = k (zI 10) := rfl
set_option maxRecDepth 10000 in
theorem zl_53 {I : Nat → Nat → Int} {A : Nat → Int → Int} {W : qWt} {j : Int} {k : Int32 → qR} (h0 : 0 ≤ j) (h1 : j < 10) : q_ald (zM I A W) (.ref 53) 0 (zI j) k = k (zI (A 53 j)) := zx_ld rfl (by decide) h0 h1
set_option maxRecDepth 10000 in
theorem zs_53 {I : Nat → Nat → Int} {A : Nat → Int → Int} {W : qWt} {j x : Int} {k : qH → qR} (h0 : 0 ≤ j) (h1 : j < 10) : q_ast (zM I A W) (.ref 53) 0 (zI j) (zI x) k = k (zM I (ua A 53 (up (A 53) j x)) W) := zx_st rfl (by decide) (by decide) rfl h0 h1
set_option maxRecDepth 10000 in
theorem zn_53 {I : Nat → Nat → Int} {A : Nat → Int → Int} {W : qWt} {k : Int32 → qR} : q_len (zM I A W) (.ref 53) k = k (zI 10) := rfl
set_option maxRecDepth 10000 in
theorem zl_54 {I : Nat → Nat → Int} {A : Nat → Int → Int} {W : qWt} {j : Int} {k : Int32 → qR} (h0 : 0 ≤ j) (h1 : j < 10) : q_ald (zM I A W) (.ref 54) 0 (zI j) k = k (zI (A 54 j)) := zx_ld rfl (by decide) h0 h1
set_option maxRecDepth 10000 in
theorem zs_54 {I : Nat → Nat → Int} {A : Nat → Int → Int} {W : qWt} {j x : Int} {k : qH → qR} (h0 : 0 ≤ j) (h1 : j < 10) : q_ast (zM I A W) (.ref 54) 0 (zI j) (zI x) k = k (zM I (ua A 54 (up (A 54) j x)) W) := zx_st rfl (by decide) (by decide) rfl h0 h1
set_option maxRecDepth 10000 in
theorem zn_54 {I : Nat → Nat → Int} {A : Nat → Int → Int} {W : qWt} {k : Int32 → qR} : q_len (zM I A W) (.ref 54) k = k (zI 10) := rfl
set_option maxRecDepth 10000 in
theorem zl_55 {I : Nat → Nat → Int} {A : Nat → Int → Int} {W : qWt} {j : Int} {k : Int32 → qR} (h0 : 0 ≤ j) (h1 : j < 10) : q_ald (zM I A W) (.ref 55) 0 (zI j) k = k (zI (A 55 j)) := zx_ld rfl (by decide) h0 h1
set_option maxRecDepth 10000 in
theorem zs_55 {I : Nat → Nat → Int} {A : Nat → Int → Int} {W : qWt} {j x : Int} {k : qH → qR} (h0 : 0 ≤ j) (h1 : j < 10) : q_ast (zM I A W) (.ref 55) 0 (zI j) (zI x) k = k (zM I (ua A 55 (up (A 55) j x)) W) := zx_st rfl (by decide) (by decide) rfl h0 h1
set_option maxRecDepth 10000 in
theorem zn_55 {I : Nat → Nat → Int} {A : Nat → Int → Int} {W : qWt} {k : Int32 → qR} : q_len (zM I A W) (.ref 55) k = k (zI 10) := rfl
set_option maxRecDepth 10000 in
theorem mc_56 {I : Nat → Nat → Int} {A : Nat → Int → Int} {W : qWt} {k : qR} : q_rcv (zM I A W) (.ref 56) 7 k = k := rfl
set_option maxRecDepth 10000 in
theorem zg_56_0 {I : Nat → Nat → Int} {A : Nat → Int → Int} {W : qWt} {k : Nat → qR} : q_gR (zM I A W) (.ref 56) 7 0 k = k 5 := rfl
set_option maxRecDepth 10000 in
theorem zg_56_1 {I : Nat → Nat → Int} {A : Nat → Int → Int} {W : qWt} {k : Nat → qR} : q_gR (zM I A W) (.ref 56) 7 1 k = k 30 := rfl
set_option maxRecDepth 10000 in
theorem zg_56_2 {I : Nat → Nat → Int} {A : Nat → Int → Int} {W : qWt} {k : Int32 → qR} : q_gI (zM I A W) (.ref 56) 7 2 k = k (zI (I 56 2)) := rfl
set_option maxRecDepth 10000 in
theorem zp_56_2 {I : Nat → Nat → Int} {A : Nat → Int → Int} {W : qWt} {v : Int} {k : qH → qR} : q_pV (zM I A W) (.ref 56) 7 2 (.int (zI v)) k = k (zM (u2 I 56 2 v) A W) := rfl
set_option maxRecDepth 10000 in
theorem zg_56_3 {I : Nat → Nat → Int} {A : Nat → Int → Int} {W : qWt} {k : Int32 → qR} : q_gI (zM I A W) (.ref 56) 7 3 k = k (zI (I 56 3)) := rfl
set_option maxRecDepth 10000 in
theorem zp_56_3 {I : Nat → Nat → Int} {A : Nat → Int → Int} {W : qWt} {v : Int} {k : qH → qR} : q_pV (zM I A W) (.ref 56) 7 3 (.int (zI v)) k = k (zM (u2 I 56 3 v) A W) := rfl
set_option maxRecDepth 10000 in
theorem zl_58 {I : Nat → Nat → Int} {A : Nat → Int → Int} {W : qWt} {j : Int} {k : Int32 → qR} (h0 : 0 ≤ j) (h1 : j < 37) : q_ald (zM I A W) (.ref 58) 0 (zI j) k = k (zI (A 58 j)) := zx_ld rfl (by decide) h0 h1
set_option maxRecDepth 10000 in
theorem zs_58 {I : Nat → Nat → Int} {A : Nat → Int → Int} {W : qWt} {j x : Int} {k : qH → qR} (h0 : 0 ≤ j) (h1 : j < 37) : q_ast (zM I A W) (.ref 58) 0 (zI j) (zI x) k = k (zM I (ua A 58 (up (A 58) j x)) W) := zx_st rfl (by decide) (by decide) rfl h0 h1
set_option maxRecDepth 10000 in
theorem zn_58 {I : Nat → Nat → Int} {A : Nat → Int → Int} {W : qWt} {k : Int32 → qR} : q_len (zM I A W) (.ref 58) k = k (zI 37) := rfl
set_option maxRecDepth 10000 in
theorem mc_59 {I : Nat → Nat → Int} {A : Nat → Int → Int} {W : qWt} {k : qR} : q_rcv (zM I A W) (.ref 59) 11 k = k := rfl
set_option maxRecDepth 10000 in
theorem zg_59_0 {I : Nat → Nat → Int} {A : Nat → Int → Int} {W : qWt} {k : Int32 → qR} : q_gI (zM I A W) (.ref 59) 11 0 k = k (zI (I 59 0)) := rfl
set_option maxRecDepth 10000 in
theorem zp_59_0 {I : Nat → Nat → Int} {A : Nat → Int → Int} {W : qWt} {v : Int} {k : qH → qR} : q_pV (zM I A W) (.ref 59) 11 0 (.int (zI v)) k = k (zM (u2 I 59 0 v) A W) := rfl
set_option maxRecDepth 10000 in
theorem zg_59_1 {I : Nat → Nat → Int} {A : Nat → Int → Int} {W : qWt} {k : Nat → qR} : q_gR (zM I A W) (.ref 59) 11 1 k = k 60 := rfl
set_option maxRecDepth 10000 in
theorem zg_59_2 {I : Nat → Nat → Int} {A : Nat → Int → Int} {W : qWt} {k : Int32 → qR} : q_gI (zM I A W) (.ref 59) 11 2 k = k (zI (I 59 2)) := rfl
set_option maxRecDepth 10000 in
theorem zp_59_2 {I : Nat → Nat → Int} {A : Nat → Int → Int} {W : qWt} {v : Int} {k : qH → qR} : q_pV (zM I A W) (.ref 59) 11 2 (.int (zI v)) k = k (zM (u2 I 59 2 v) A W) := rfl
set_option maxRecDepth 10000 in
theorem zg_59_3 {I : Nat → Nat → Int} {A : Nat → Int → Int} {W : qWt} {k : Int32 → qR} : q_gI (zM I A W) (.ref 59) 11 3 k = k (zI (I 59 3)) := rfl
set_option maxRecDepth 10000 in
theorem zp_59_3 {I : Nat → Nat → Int} {A : Nat → Int → Int} {W : qWt} {v : Int} {k : qH → qR} : q_pV (zM I A W) (.ref 59) 11 3 (.int (zI v)) k = k (zM (u2 I 59 3 v) A W) := rfl
set_option maxRecDepth 10000 in
theorem zg_59_4 {I : Nat → Nat → Int} {A : Nat → Int → Int} {W : qWt} {k : Int32 → qR} : q_gI (zM I A W) (.ref 59) 11 4 k = k (zI (I 59 4)) := rfl
set_option maxRecDepth 10000 in
theorem zp_59_4 {I : Nat → Nat → Int} {A : Nat → Int → Int} {W : qWt} {v : Int} {k : qH → qR} : q_pV (zM I A W) (.ref 59) 11 4 (.int (zI v)) k = k (zM (u2 I 59 4 v) A W) := rfl
set_option maxRecDepth 10000 in
theorem zg_59_5 {I : Nat → Nat → Int} {A : Nat → Int → Int} {W : qWt} {k : Int32 → qR} : q_gI (zM I A W) (.ref 59) 11 5 k = k (zI (I 59 5)) := rfl
set_option maxRecDepth 10000 in
theorem zp_59_5 {I : Nat → Nat → Int} {A : Nat → Int → Int} {W : qWt} {v : Int} {k : qH → qR} : q_pV (zM I A W) (.ref 59) 11 5 (.int (zI v)) k = k (zM (u2 I 59 5 v) A W) := rfl
set_option maxRecDepth 10000 in
theorem zg_59_6 {I : Nat → Nat → Int} {A : Nat → Int → Int} {W : qWt} {k : Int32 → qR} : q_gI (zM I A W) (.ref 59) 11 6 k = k (zI (I 59 6)) := rfl
set_option maxRecDepth 10000 in
theorem zp_59_6 {I : Nat → Nat → Int} {A : Nat → Int → Int} {W : qWt} {v : Int} {k : qH → qR} : q_pV (zM I A W) (.ref 59) 11 6 (.int (zI v)) k = k (zM (u2 I 59 6 v) A W) := rfl
set_option maxRecDepth 10000 in
theorem zg_59_7 {I : Nat → Nat → Int} {A : Nat → Int → Int} {W : qWt} {k : Int32 → qR} : q_gI (zM I A W) (.ref 59) 11 7 k = k (zI (I 59 7)) := rfl
set_option maxRecDepth 10000 in
theorem zp_59_7 {I : Nat → Nat → Int} {A : Nat → Int → Int} {W : qWt} {v : Int} {k : qH → qR} : q_pV (zM I A W) (.ref 59) 11 7 (.int (zI v)) k = k (zM (u2 I 59 7 v) A W) := rfl
set_option maxRecDepth 10000 in
theorem zg_59_8 {I : Nat → Nat → Int} {A : Nat → Int → Int} {W : qWt} {k : Int32 → qR} : q_gI (zM I A W) (.ref 59) 11 8 k = k (zI (I 59 8)) := rfl
set_option maxRecDepth 10000 in
theorem zp_59_8 {I : Nat → Nat → Int} {A : Nat → Int → Int} {W : qWt} {v : Int} {k : qH → qR} : q_pV (zM I A W) (.ref 59) 11 8 (.int (zI v)) k = k (zM (u2 I 59 8 v) A W) := rfl
set_option maxRecDepth 10000 in
theorem zg_59_9 {I : Nat → Nat → Int} {A : Nat → Int → Int} {W : qWt} {k : Nat → qR} : q_gR (zM I A W) (.ref 59) 11 9 k = k 61 := rfl
set_option maxRecDepth 10000 in
theorem zg_59_10 {I : Nat → Nat → Int} {A : Nat → Int → Int} {W : qWt} {k : Nat → qR} : q_gR (zM I A W) (.ref 59) 11 10 k = k 62 := rfl
set_option maxRecDepth 10000 in
theorem zg_59_11 {I : Nat → Nat → Int} {A : Nat → Int → Int} {W : qWt} {k : Nat → qR} : q_gR (zM I A W) (.ref 59) 11 11 k = k 63 := rfl
set_option maxRecDepth 10000 in
theorem zg_59_12 {I : Nat → Nat → Int} {A : Nat → Int → Int} {W : qWt} {k : Nat → qR} : q_gR (zM I A W) (.ref 59) 11 12 k = k 64 := rfl
set_option maxRecDepth 10000 in
theorem zg_59_13 {I : Nat → Nat → Int} {A : Nat → Int → Int} {W : qWt} {k : Nat → qR} : q_gR (zM I A W) (.ref 59) 11 13 k = k 65 := rfl
set_option maxRecDepth 10000 in
theorem zg_59_14 {I : Nat → Nat → Int} {A : Nat → Int → Int} {W : qWt} {k : Nat → qR} : q_gR (zM I A W) (.ref 59) 11 14 k = k 66 := rfl
set_option maxRecDepth 10000 in
theorem zg_59_15 {I : Nat → Nat → Int} {A : Nat → Int → Int} {W : qWt} {k : Nat → qR} : q_gR (zM I A W) (.ref 59) 11 15 k = k 67 := rfl
set_option maxRecDepth 10000 in
theorem zg_59_16 {I : Nat → Nat → Int} {A : Nat → Int → Int} {W : qWt} {k : Int32 → qR} : q_gI (zM I A W) (.ref 59) 11 16 k = k (zI (I 59 16)) := rfl
set_option maxRecDepth 10000 in
theorem zp_59_16 {I : Nat → Nat → Int} {A : Nat → Int → Int} {W : qWt} {v : Int} {k : qH → qR} : q_pV (zM I A W) (.ref 59) 11 16 (.int (zI v)) k = k (zM (u2 I 59 16 v) A W) := rfl
set_option maxRecDepth 10000 in
theorem zg_59_17 {I : Nat → Nat → Int} {A : Nat → Int → Int} {W : qWt} {k : Int32 → qR} : q_gI (zM I A W) (.ref 59) 11 17 k = k (zI (I 59 17)) := rfl
set_option maxRecDepth 10000 in
theorem zp_59_17 {I : Nat → Nat → Int} {A : Nat → Int → Int} {W : qWt} {v : Int} {k : qH → qR} : q_pV (zM I A W) (.ref 59) 11 17 (.int (zI v)) k = k (zM (u2 I 59 17 v) A W) := rfl
set_option maxRecDepth 10000 in
theorem zg_59_18 {I : Nat → Nat → Int} {A : Nat → Int → Int} {W : qWt} {k : Int32 → qR} : q_gI (zM I A W) (.ref 59) 11 18 k = k (zI (I 59 18)) := rfl
set_option maxRecDepth 10000 in
theorem zp_59_18 {I : Nat → Nat → Int} {A : Nat → Int → Int} {W : qWt} {v : Int} {k : qH → qR} : q_pV (zM I A W) (.ref 59) 11 18 (.int (zI v)) k = k (zM (u2 I 59 18 v) A W) := rfl
set_option maxRecDepth 10000 in
theorem zg_59_19 {I : Nat → Nat → Int} {A : Nat → Int → Int} {W : qWt} {k : Int32 → qR} : q_gI (zM I A W) (.ref 59) 11 19 k = k (zI (I 59 19)) := rfl
set_option maxRecDepth 10000 in
theorem zp_59_19 {I : Nat → Nat → Int} {A : Nat → Int → Int} {W : qWt} {v : Int} {k : qH → qR} : q_pV (zM I A W) (.ref 59) 11 19 (.int (zI v)) k = k (zM (u2 I 59 19 v) A W) := rfl
set_option maxRecDepth 10000 in
theorem zg_59_20 {I : Nat → Nat → Int} {A : Nat → Int → Int} {W : qWt} {k : Int32 → qR} : q_gI (zM I A W) (.ref 59) 11 20 k = k (zI (I 59 20)) := rfl
set_option maxRecDepth 10000 in
theorem zp_59_20 {I : Nat → Nat → Int} {A : Nat → Int → Int} {W : qWt} {v : Int} {k : qH → qR} : q_pV (zM I A W) (.ref 59) 11 20 (.int (zI v)) k = k (zM (u2 I 59 20 v) A W) := rfl
set_option maxRecDepth 10000 in
theorem zg_59_21 {I : Nat → Nat → Int} {A : Nat → Int → Int} {W : qWt} {k : Int32 → qR} : q_gI (zM I A W) (.ref 59) 11 21 k = k (zI (I 59 21)) := rfl
set_option maxRecDepth 10000 in
theorem zp_59_21 {I : Nat → Nat → Int} {A : Nat → Int → Int} {W : qWt} {v : Int} {k : qH → qR} : q_pV (zM I A W) (.ref 59) 11 21 (.int (zI v)) k = k (zM (u2 I 59 21 v) A W) := rfl
set_option maxRecDepth 10000 in
theorem zg_59_22 {I : Nat → Nat → Int} {A : Nat → Int → Int} {W : qWt} {k : Int32 → qR} : q_gI (zM I A W) (.ref 59) 11 22 k = k (zI (I 59 22)) := rfl
set_option maxRecDepth 10000 in
theorem zp_59_22 {I : Nat → Nat → Int} {A : Nat → Int → Int} {W : qWt} {v : Int} {k : qH → qR} : q_pV (zM I A W) (.ref 59) 11 22 (.int (zI v)) k = k (zM (u2 I 59 22 v) A W) := rfl
set_option maxRecDepth 10000 in
theorem zg_59_23 {I : Nat → Nat → Int} {A : Nat → Int → Int} {W : qWt} {k : Int32 → qR} : q_gI (zM I A W) (.ref 59) 11 23 k = k (zI (I 59 23)) := rfl
set_option maxRecDepth 10000 in
theorem zp_59_23 {I : Nat → Nat → Int} {A : Nat → Int → Int} {W : qWt} {v : Int} {k : qH → qR} : q_pV (zM I A W) (.ref 59) 11 23 (.int (zI v)) k = k (zM (u2 I 59 23 v) A W) := rfl
set_option maxRecDepth 10000 in
theorem zg_59_24 {I : Nat → Nat → Int} {A : Nat → Int → Int} {W : qWt} {k : Int32 → qR} : q_gI (zM I A W) (.ref 59) 11 24 k = k (zI (I 59 24)) := rfl
set_option maxRecDepth 10000 in
theorem zp_59_24 {I : Nat → Nat → Int} {A : Nat → Int → Int} {W : qWt} {v : Int} {k : qH → qR} : q_pV (zM I A W) (.ref 59) 11 24 (.int (zI v)) k = k (zM (u2 I 59 24 v) A W) := rfl
set_option maxRecDepth 10000 in
theorem zg_59_25 {I : Nat → Nat → Int} {A : Nat → Int → Int} {W : qWt} {k : Int32 → qR} : q_gI (zM I A W) (.ref 59) 11 25 k = k (zI (I 59 25)) := rfl
set_option maxRecDepth 10000 in
theorem zp_59_25 {I : Nat → Nat → Int} {A : Nat → Int → Int} {W : qWt} {v : Int} {k : qH → qR} : q_pV (zM I A W) (.ref 59) 11 25 (.int (zI v)) k = k (zM (u2 I 59 25 v) A W) := rfl
set_option maxRecDepth 10000 in
theorem zg_59_26 {I : Nat → Nat → Int} {A : Nat → Int → Int} {W : qWt} {k : Nat → qR} : q_gR (zM I A W) (.ref 59) 11 26 k = k 68 := rfl
set_option maxRecDepth 10000 in
theorem zg_59_27 {I : Nat → Nat → Int} {A : Nat → Int → Int} {W : qWt} {k : Nat → qR} : q_gR (zM I A W) (.ref 59) 11 27 k = k 69 := rfl
set_option maxRecDepth 10000 in
theorem zg_59_28 {I : Nat → Nat → Int} {A : Nat → Int → Int} {W : qWt} {k : Nat → qR} : q_gR (zM I A W) (.ref 59) 11 28 k = k 70 := rfl
set_option maxRecDepth 10000 in
theorem zg_59_29 {I : Nat → Nat → Int} {A : Nat → Int → Int} {W : qWt} {k : Nat → qR} : q_gR (zM I A W) (.ref 59) 11 29 k = k 71 := rfl
set_option maxRecDepth 10000 in
theorem zg_59_30 {I : Nat → Nat → Int} {A : Nat → Int → Int} {W : qWt} {k : Nat → qR} : q_gR (zM I A W) (.ref 59) 11 30 k = k 72 := rfl
set_option maxRecDepth 10000 in
theorem zg_59_31 {I : Nat → Nat → Int} {A : Nat → Int → Int} {W : qWt} {k : Int32 → qR} : q_gI (zM I A W) (.ref 59) 11 31 k = k (zI (I 59 31)) := rfl
set_option maxRecDepth 10000 in
theorem zp_59_31 {I : Nat → Nat → Int} {A : Nat → Int → Int} {W : qWt} {v : Int} {k : qH → qR} : q_pV (zM I A W) (.ref 59) 11 31 (.int (zI v)) k = k (zM (u2 I 59 31 v) A W) := rfl
set_option maxRecDepth 10000 in
theorem zg_59_32 {I : Nat → Nat → Int} {A : Nat → Int → Int} {W : qWt} {k : Int32 → qR} : q_gI (zM I A W) (.ref 59) 11 32 k = k (zI (I 59 32)) := rfl
set_option maxRecDepth 10000 in
theorem zp_59_32 {I : Nat → Nat → Int} {A : Nat → Int → Int} {W : qWt} {v : Int} {k : qH → qR} : q_pV (zM I A W) (.ref 59) 11 32 (.int (zI v)) k = k (zM (u2 I 59 32 v) A W) := rfl
set_option maxRecDepth 10000 in
theorem zg_59_33 {I : Nat → Nat → Int} {A : Nat → Int → Int} {W : qWt} {k : Nat → qR} : q_gR (zM I A W) (.ref 59) 11 33 k = k 73 := rfl
set_option maxRecDepth 10000 in
theorem zg_59_34 {I : Nat → Nat → Int} {A : Nat → Int → Int} {W : qWt} {k : Nat → qR} : q_gR (zM I A W) (.ref 59) 11 34 k = k 74 := rfl
set_option maxRecDepth 10000 in
theorem zg_59_35 {I : Nat → Nat → Int} {A : Nat → Int → Int} {W : qWt} {k : Nat → qR} : q_gR (zM I A W) (.ref 59) 11 35 k = k 75 := rfl
set_option maxRecDepth 10000 in
theorem zg_59_36 {I : Nat → Nat → Int} {A : Nat → Int → Int} {W : qWt} {k : Int32 → qR} : q_gI (zM I A W) (.ref 59) 11 36 k = k (zI (I 59 36)) := rfl
set_option maxRecDepth 10000 in
theorem zp_59_36 {I : Nat → Nat → Int} {A : Nat → Int → Int} {W : qWt} {v : Int} {k : qH → qR} : q_pV (zM I A W) (.ref 59) 11 36 (.int (zI v)) k = k (zM (u2 I 59 36 v) A W) := rfl
set_option maxRecDepth 10000 in
theorem zg_59_37 {I : Nat → Nat → Int} {A : Nat → Int → Int} {W : qWt} {k : Int32 → qR} : q_gI (zM I A W) (.ref 59) 11 37 k = k (zI (I 59 37)) := rfl
set_option maxRecDepth 10000 in
theorem zp_59_37 {I : Nat → Nat → Int} {A : Nat → Int → Int} {W : qWt} {v : Int} {k : qH → qR} : q_pV (zM I A W) (.ref 59) 11 37 (.int (zI v)) k = k (zM (u2 I 59 37 v) A W) := rfl
set_option maxRecDepth 10000 in
theorem zg_59_38 {I : Nat → Nat → Int} {A : Nat → Int → Int} {W : qWt} {k : Int32 → qR} : q_gI (zM I A W) (.ref 59) 11 38 k = k (zI (I 59 38)) := rfl
set_option maxRecDepth 10000 in
theorem zp_59_38 {I : Nat → Nat → Int} {A : Nat → Int → Int} {W : qWt} {v : Int} {k : qH → qR} : q_pV (zM I A W) (.ref 59) 11 38 (.int (zI v)) k = k (zM (u2 I 59 38 v) A W) := rfl
set_option maxRecDepth 10000 in
theorem zg_59_39 {I : Nat → Nat → Int} {A : Nat → Int → Int} {W : qWt} {k : Int32 → qR} : q_gI (zM I A W) (.ref 59) 11 39 k = k (zI (I 59 39)) := rfl
set_option maxRecDepth 10000 in
theorem zp_59_39 {I : Nat → Nat → Int} {A : Nat → Int → Int} {W : qWt} {v : Int} {k : qH → qR} : q_pV (zM I A W) (.ref 59) 11 39 (.int (zI v)) k = k (zM (u2 I 59 39 v) A W) := rfl
set_option maxRecDepth 10000 in
theorem zg_59_40 {I : Nat → Nat → Int} {A : Nat → Int → Int} {W : qWt} {k : Int32 → qR} : q_gI (zM I A W) (.ref 59) 11 40 k = k (zI (I 59 40)) := rfl
set_option maxRecDepth 10000 in
theorem zp_59_40 {I : Nat → Nat → Int} {A : Nat → Int → Int} {W : qWt} {v : Int} {k : qH → qR} : q_pV (zM I A W) (.ref 59) 11 40 (.int (zI v)) k = k (zM (u2 I 59 40 v) A W) := rfl
set_option maxRecDepth 10000 in
theorem zg_59_41 {I : Nat → Nat → Int} {A : Nat → Int → Int} {W : qWt} {k : Int32 → qR} : q_gI (zM I A W) (.ref 59) 11 41 k = k (zI (I 59 41)) := rfl
set_option maxRecDepth 10000 in
theorem zp_59_41 {I : Nat → Nat → Int} {A : Nat → Int → Int} {W : qWt} {v : Int} {k : qH → qR} : q_pV (zM I A W) (.ref 59) 11 41 (.int (zI v)) k = k (zM (u2 I 59 41 v) A W) := rfl
set_option maxRecDepth 10000 in
theorem zg_59_42 {I : Nat → Nat → Int} {A : Nat → Int → Int} {W : qWt} {k : Nat → qR} : q_gR (zM I A W) (.ref 59) 11 42 k = k 76 := rfl
set_option maxRecDepth 10000 in
theorem zg_59_43 {I : Nat → Nat → Int} {A : Nat → Int → Int} {W : qWt} {k : Nat → qR} : q_gR (zM I A W) (.ref 59) 11 43 k = k 77 := rfl
set_option maxRecDepth 10000 in
theorem zg_59_44 {I : Nat → Nat → Int} {A : Nat → Int → Int} {W : qWt} {k : Nat → qR} : q_gR (zM I A W) (.ref 59) 11 44 k = k 78 := rfl
set_option maxRecDepth 10000 in
theorem zg_59_45 {I : Nat → Nat → Int} {A : Nat → Int → Int} {W : qWt} {k : Nat → qR} : q_gR (zM I A W) (.ref 59) 11 45 k = k 79 := rfl
set_option maxRecDepth 10000 in
theorem zg_59_46 {I : Nat → Nat → Int} {A : Nat → Int → Int} {W : qWt} {k : Nat → qR} : q_gR (zM I A W) (.ref 59) 11 46 k = k 80 := rfl
set_option maxRecDepth 10000 in
theorem zg_59_47 {I : Nat → Nat → Int} {A : Nat → Int → Int} {W : qWt} {k : Nat → qR} : q_gR (zM I A W) (.ref 59) 11 47 k = k 81 := rfl
set_option maxRecDepth 10000 in
theorem zg_59_48 {I : Nat → Nat → Int} {A : Nat → Int → Int} {W : qWt} {k : Int32 → qR} : q_gI (zM I A W) (.ref 59) 11 48 k = k (zI (I 59 48)) := rfl
set_option maxRecDepth 10000 in
theorem zp_59_48 {I : Nat → Nat → Int} {A : Nat → Int → Int} {W : qWt} {v : Int} {k : qH → qR} : q_pV (zM I A W) (.ref 59) 11 48 (.int (zI v)) k = k (zM (u2 I 59 48 v) A W) := rfl
set_option maxRecDepth 10000 in
theorem zg_59_49 {I : Nat → Nat → Int} {A : Nat → Int → Int} {W : qWt} {k : Nat → qR} : q_gR (zM I A W) (.ref 59) 11 49 k = k 82 := rfl
set_option maxRecDepth 10000 in
theorem zg_59_50 {I : Nat → Nat → Int} {A : Nat → Int → Int} {W : qWt} {k : Nat → qR} : q_gR (zM I A W) (.ref 59) 11 50 k = k 83 := rfl
set_option maxRecDepth 10000 in
theorem zg_59_51 {I : Nat → Nat → Int} {A : Nat → Int → Int} {W : qWt} {k : Nat → qR} : q_gR (zM I A W) (.ref 59) 11 51 k = k 84 := rfl
set_option maxRecDepth 10000 in
theorem zg_59_52 {I : Nat → Nat → Int} {A : Nat → Int → Int} {W : qWt} {k : Int32 → qR} : q_gI (zM I A W) (.ref 59) 11 52 k = k (zI (I 59 52)) := rfl
set_option maxRecDepth 10000 in
theorem zp_59_52 {I : Nat → Nat → Int} {A : Nat → Int → Int} {W : qWt} {v : Int} {k : qH → qR} : q_pV (zM I A W) (.ref 59) 11 52 (.int (zI v)) k = k (zM (u2 I 59 52 v) A W) := rfl
set_option maxRecDepth 10000 in
theorem zg_59_53 {I : Nat → Nat → Int} {A : Nat → Int → Int} {W : qWt} {k : Int32 → qR} : q_gI (zM I A W) (.ref 59) 11 53 k = k (zI (I 59 53)) := rfl
set_option maxRecDepth 10000 in
theorem zp_59_53 {I : Nat → Nat → Int} {A : Nat → Int → Int} {W : qWt} {v : Int} {k : qH → qR} : q_pV (zM I A W) (.ref 59) 11 53 (.int (zI v)) k = k (zM (u2 I 59 53 v) A W) := rfl
set_option maxRecDepth 10000 in
theorem zg_59_54 {I : Nat → Nat → Int} {A : Nat → Int → Int} {W : qWt} {k : Nat → qR} : q_gR (zM I A W) (.ref 59) 11 54 k = k 85 := rfl
set_option maxRecDepth 10000 in
theorem zg_59_55 {I : Nat → Nat → Int} {A : Nat → Int → Int} {W : qWt} {k : Nat → qR} : q_gR (zM I A W) (.ref 59) 11 55 k = k 86 := rfl
set_option maxRecDepth 10000 in
theorem zg_59_56 {I : Nat → Nat → Int} {A : Nat → Int → Int} {W : qWt} {k : Int32 → qR} : q_gI (zM I A W) (.ref 59) 11 56 k = k (zI (I 59 56)) := rfl
set_option maxRecDepth 10000 in
theorem zp_59_56 {I : Nat → Nat → Int} {A : Nat → Int → Int} {W : qWt} {v : Int} {k : qH → qR} : q_pV (zM I A W) (.ref 59) 11 56 (.int (zI v)) k = k (zM (u2 I 59 56 v) A W) := rfl
set_option maxRecDepth 10000 in
theorem zg_59_57 {I : Nat → Nat → Int} {A : Nat → Int → Int} {W : qWt} {k : Nat → qR} : q_gR (zM I A W) (.ref 59) 11 57 k = k 87 := rfl
set_option maxRecDepth 10000 in
theorem zg_59_58 {I : Nat → Nat → Int} {A : Nat → Int → Int} {W : qWt} {k : Int32 → qR} : q_gI (zM I A W) (.ref 59) 11 58 k = k (zI (I 59 58)) := rfl
set_option maxRecDepth 10000 in
theorem zp_59_58 {I : Nat → Nat → Int} {A : Nat → Int → Int} {W : qWt} {v : Int} {k : qH → qR} : q_pV (zM I A W) (.ref 59) 11 58 (.int (zI v)) k = k (zM (u2 I 59 58 v) A W) := rfl
set_option maxRecDepth 10000 in
theorem zg_59_59 {I : Nat → Nat → Int} {A : Nat → Int → Int} {W : qWt} {k : Int32 → qR} : q_gI (zM I A W) (.ref 59) 11 59 k = k (zI (I 59 59)) := rfl
set_option maxRecDepth 10000 in
theorem zp_59_59 {I : Nat → Nat → Int} {A : Nat → Int → Int} {W : qWt} {v : Int} {k : qH → qR} : q_pV (zM I A W) (.ref 59) 11 59 (.int (zI v)) k = k (zM (u2 I 59 59 v) A W) := rfl
set_option maxRecDepth 10000 in
theorem zg_59_60 {I : Nat → Nat → Int} {A : Nat → Int → Int} {W : qWt} {k : Nat → qR} : q_gR (zM I A W) (.ref 59) 11 60 k = k 88 := rfl
set_option maxRecDepth 10000 in
theorem zg_59_61 {I : Nat → Nat → Int} {A : Nat → Int → Int} {W : qWt} {k : Int32 → qR} : q_gI (zM I A W) (.ref 59) 11 61 k = k (zI (I 59 61)) := rfl
set_option maxRecDepth 10000 in
theorem zp_59_61 {I : Nat → Nat → Int} {A : Nat → Int → Int} {W : qWt} {v : Int} {k : qH → qR} : q_pV (zM I A W) (.ref 59) 11 61 (.int (zI v)) k = k (zM (u2 I 59 61 v) A W) := rfl
set_option maxRecDepth 10000 in
theorem zl_60 {I : Nat → Nat → Int} {A : Nat → Int → Int} {W : qWt} {j : Int} {k : Int32 → qR} (h0 : 0 ≤ j) (h1 : j < 2) : q_ald (zM I A W) (.ref 60) 0 (zI j) k = k (zI (A 60 j)) := zx_ld rfl (by decide) h0 h1
set_option maxRecDepth 10000 in
theorem zs_60 {I : Nat → Nat → Int} {A : Nat → Int → Int} {W : qWt} {j x : Int} {k : qH → qR} (h0 : 0 ≤ j) (h1 : j < 2) : q_ast (zM I A W) (.ref 60) 0 (zI j) (zI x) k = k (zM I (ua A 60 (up (A 60) j x)) W) := zx_st rfl (by decide) (by decide) rfl h0 h1
set_option maxRecDepth 10000 in
theorem zn_60 {I : Nat → Nat → Int} {A : Nat → Int → Int} {W : qWt} {k : Int32 → qR} : q_len (zM I A W) (.ref 60) k = k (zI 2) := rfl
set_option maxRecDepth 10000 in
theorem zl_61 {I : Nat → Nat → Int} {A : Nat → Int → Int} {W : qWt} {j : Int} {k : Int32 → qR} (h0 : 0 ≤ j) (h1 : j < 600) : q_ald (zM I A W) (.ref 61) 0 (zI j) k = k (zI (A 61 j)) := zx_ld rfl (by decide) h0 h1
set_option maxRecDepth 10000 in
theorem zs_61 {I : Nat → Nat → Int} {A : Nat → Int → Int} {W : qWt} {j x : Int} {k : qH → qR} (h0 : 0 ≤ j) (h1 : j < 600) : q_ast (zM I A W) (.ref 61) 0 (zI j) (zI x) k = k (zM I (ua A 61 (up (A 61) j x)) W) := zx_st rfl (by decide) (by decide) rfl h0 h1
set_option maxRecDepth 10000 in
theorem zn_61 {I : Nat → Nat → Int} {A : Nat → Int → Int} {W : qWt} {k : Int32 → qR} : q_len (zM I A W) (.ref 61) k = k (zI 600) := rfl
set_option maxRecDepth 10000 in
theorem zl_62 {I : Nat → Nat → Int} {A : Nat → Int → Int} {W : qWt} {j : Int} {k : Int32 → qR} (h0 : 0 ≤ j) (h1 : j < 5) : q_ald (zM I A W) (.ref 62) 0 (zI j) k = k (zI (A 62 j)) := zx_ld rfl (by decide) h0 h1
set_option maxRecDepth 10000 in
theorem zs_62 {I : Nat → Nat → Int} {A : Nat → Int → Int} {W : qWt} {j x : Int} {k : qH → qR} (h0 : 0 ≤ j) (h1 : j < 5) : q_ast (zM I A W) (.ref 62) 0 (zI j) (zI x) k = k (zM I (ua A 62 (up (A 62) j x)) W) := zx_st rfl (by decide) (by decide) rfl h0 h1
set_option maxRecDepth 10000 in
theorem zn_62 {I : Nat → Nat → Int} {A : Nat → Int → Int} {W : qWt} {k : Int32 → qR} : q_len (zM I A W) (.ref 62) k = k (zI 5) := rfl
set_option maxRecDepth 10000 in
theorem zl_63 {I : Nat → Nat → Int} {A : Nat → Int → Int} {W : qWt} {j : Int} {k : Int32 → qR} (h0 : 0 ≤ j) (h1 : j < 30) : q_ald (zM I A W) (.ref 63) 0 (zI j) k = k (zI (A 63 j)) := zx_ld rfl (by decide) h0 h1
set_option maxRecDepth 10000 in
theorem zs_63 {I : Nat → Nat → Int} {A : Nat → Int → Int} {W : qWt} {j x : Int} {k : qH → qR} (h0 : 0 ≤ j) (h1 : j < 30) : q_ast (zM I A W) (.ref 63) 0 (zI j) (zI x) k = k (zM I (ua A 63 (up (A 63) j x)) W) := zx_st rfl (by decide) (by decide) rfl h0 h1
set_option maxRecDepth 10000 in
theorem zn_63 {I : Nat → Nat → Int} {A : Nat → Int → Int} {W : qWt} {k : Int32 → qR} : q_len (zM I A W) (.ref 63) k = k (zI 30) := rfl
set_option maxRecDepth 10000 in
theorem zl_64 {I : Nat → Nat → Int} {A : Nat → Int → Int} {W : qWt} {j : Int} {k : Int32 → qR} (h0 : 0 ≤ j) (h1 : j < 8) : q_ald (zM I A W) (.ref 64) 0 (zI j) k = k (zI (A 64 j)) := zx_ld rfl (by decide) h0 h1
set_option maxRecDepth 10000 in
theorem zs_64 {I : Nat → Nat → Int} {A : Nat → Int → Int} {W : qWt} {j x : Int} {k : qH → qR} (h0 : 0 ≤ j) (h1 : j < 8) : q_ast (zM I A W) (.ref 64) 0 (zI j) (zI x) k = k (zM I (ua A 64 (up (A 64) j x)) W) := zx_st rfl (by decide) (by decide) rfl h0 h1
set_option maxRecDepth 10000 in
theorem zn_64 {I : Nat → Nat → Int} {A : Nat → Int → Int} {W : qWt} {k : Int32 → qR} : q_len (zM I A W) (.ref 64) k = k (zI 8) := rfl
set_option maxRecDepth 10000 in
theorem zl_65 {I : Nat → Nat → Int} {A : Nat → Int → Int} {W : qWt} {j : Int} {k : Int32 → qR} (h0 : 0 ≤ j) (h1 : j < 5) : q_ald (zM I A W) (.ref 65) 0 (zI j) k = k (zI (A 65 j)) := zx_ld rfl (by decide) h0 h1
set_option maxRecDepth 10000 in
theorem zs_65 {I : Nat → Nat → Int} {A : Nat → Int → Int} {W : qWt} {j x : Int} {k : qH → qR} (h0 : 0 ≤ j) (h1 : j < 5) : q_ast (zM I A W) (.ref 65) 0 (zI j) (zI x) k = k (zM I (ua A 65 (up (A 65) j x)) W) := zx_st rfl (by decide) (by decide) rfl h0 h1
set_option maxRecDepth 10000 in
theorem zn_65 {I : Nat → Nat → Int} {A : Nat → Int → Int} {W : qWt} {k : Int32 → qR} : q_len (zM I A W) (.ref 65) k = k (zI 5) := rfl
set_option maxRecDepth 10000 in
theorem zl_66 {I : Nat → Nat → Int} {A : Nat → Int → Int} {W : qWt} {j : Int} {k : Int32 → qR} (h0 : 0 ≤ j) (h1 : j < 30) : q_ald (zM I A W) (.ref 66) 0 (zI j) k = k (zI (A 66 j)) := zx_ld rfl (by decide) h0 h1
set_option maxRecDepth 10000 in
theorem zs_66 {I : Nat → Nat → Int} {A : Nat → Int → Int} {W : qWt} {j x : Int} {k : qH → qR} (h0 : 0 ≤ j) (h1 : j < 30) : q_ast (zM I A W) (.ref 66) 0 (zI j) (zI x) k = k (zM I (ua A 66 (up (A 66) j x)) W) := zx_st rfl (by decide) (by decide) rfl h0 h1
set_option maxRecDepth 10000 in
theorem zn_66 {I : Nat → Nat → Int} {A : Nat → Int → Int} {W : qWt} {k : Int32 → qR} : q_len (zM I A W) (.ref 66) k = k (zI 30) := rfl
set_option maxRecDepth 10000 in
theorem zl_67 {I : Nat → Nat → Int} {A : Nat → Int → Int} {W : qWt} {j : Int} {k : Int32 → qR} (h0 : 0 ≤ j) (h1 : j < 8) : q_ald (zM I A W) (.ref 67) 0 (zI j) k = k (zI (A 67 j)) := zx_ld rfl (by decide) h0 h1
set_option maxRecDepth 10000 in
theorem zs_67 {I : Nat → Nat → Int} {A : Nat → Int → Int} {W : qWt} {j x : Int} {k : qH → qR} (h0 : 0 ≤ j) (h1 : j < 8) : q_ast (zM I A W) (.ref 67) 0 (zI j) (zI x) k = k (zM I (ua A 67 (up (A 67) j x)) W) := zx_st rfl (by decide) (by decide) rfl h0 h1
set_option maxRecDepth 10000 in
theorem zn_67 {I : Nat → Nat → Int} {A : Nat → Int → Int} {W : qWt} {k : Int32 → qR} : q_len (zM I A W) (.ref 67) k = k (zI 8) := rfl
set_option maxRecDepth 10000 in
theorem zl_68 {I : Nat → Nat → Int} {A : Nat → Int → Int} {W : qWt} {j : Int} {k : Int32 → qR} (h0 : 0 ≤ j) (h1 : j < 150) : q_ald (zM I A W) (.ref 68) 0 (zI j) k = k (zI (A 68 j)) := zx_ld rfl (by decide) h0 h1
set_option maxRecDepth 10000 in
theorem zs_68 {I : Nat → Nat → Int} {A : Nat → Int → Int} {W : qWt} {j x : Int} {k : qH → qR} (h0 : 0 ≤ j) (h1 : j < 150) : q_ast (zM I A W) (.ref 68) 0 (zI j) (zI x) k = k (zM I (ua A 68 (up (A 68) j x)) W) := zx_st rfl (by decide) (by decide) rfl h0 h1
set_option maxRecDepth 10000 in
theorem zn_68 {I : Nat → Nat → Int} {A : Nat → Int → Int} {W : qWt} {k : Int32 → qR} : q_len (zM I A W) (.ref 68) k = k (zI 150) := rfl
set_option maxRecDepth 10000 in
theorem zl_69 {I : Nat → Nat → Int} {A : Nat → Int → Int} {W : qWt} {j : Int} {k : Int32 → qR} (h0 : 0 ≤ j) (h1 : j < 150) : q_ald (zM I A W) (.ref 69) 0 (zI j) k = k (zI (A 69 j)) := zx_ld rfl (by decide) h0 h1
set_option maxRecDepth 10000 in
theorem zs_69 {I : Nat → Nat → Int} {A : Nat → Int → Int} {W : qWt} {j x : Int} {k : qH → qR} (h0 : 0 ≤ j) (h1 : j < 150) : q_ast (zM I A W) (.ref 69) 0 (zI j) (zI x) k = k (zM I (ua A 69 (up (A 69) j x)) W) := zx_st rfl (by decide) (by decide) rfl h0 h1
set_option maxRecDepth 10000 in
theorem zn_69 {I : Nat → Nat → Int} {A : Nat → Int → Int} {W : qWt} {k : Int32 → qR} : q_len (zM I A W) (.ref 69) k = k (zI 150) := rfl
set_option maxRecDepth 10000 in
theorem zl_70 {I : Nat → Nat → Int} {A : Nat → Int → Int} {W : qWt} {j : Int} {k : Int32 → qR} (h0 : 0 ≤ j) (h1 : j < 150) : q_ald (zM I A W) (.ref 70) 0 (zI j) k = k (zI (A 70 j)) := zx_ld rfl (by decide) h0 h1
set_option maxRecDepth 10000 in
theorem zs_70 {I : Nat → Nat → Int} {A : Nat → Int → Int} {W : qWt} {j x : Int} {k : qH → qR} (h0 : 0 ≤ j) (h1 : j < 150) : q_ast (zM I A W) (.ref 70) 0 (zI j) (zI x) k = k (zM I (ua A 70 (up (A 70) j x)) W) := zx_st rfl (by decide) (by decide) rfl h0 h1
set_option maxRecDepth 10000 in
theorem zn_70 {I : Nat → Nat → Int} {A : Nat → Int → Int} {W : qWt} {k : Int32 → qR} : q_len (zM I A W) (.ref 70) k = k (zI 150) := rfl
set_option maxRecDepth 10000 in
theorem zl_71 {I : Nat → Nat → Int} {A : Nat → Int → Int} {W : qWt} {j : Int} {k : Int32 → qR} (h0 : 0 ≤ j) (h1 : j < 150) : q_ald (zM I A W) (.ref 71) 0 (zI j) k = k (zI (A 71 j)) := zx_ld rfl (by decide) h0 h1
set_option maxRecDepth 10000 in
theorem zs_71 {I : Nat → Nat → Int} {A : Nat → Int → Int} {W : qWt} {j x : Int} {k : qH → qR} (h0 : 0 ≤ j) (h1 : j < 150) : q_ast (zM I A W) (.ref 71) 0 (zI j) (zI x) k = k (zM I (ua A 71 (up (A 71) j x)) W) := zx_st rfl (by decide) (by decide) rfl h0 h1
set_option maxRecDepth 10000 in
theorem zn_71 {I : Nat → Nat → Int} {A : Nat → Int → Int} {W : qWt} {k : Int32 → qR} : q_len (zM I A W) (.ref 71) k = k (zI 150) := rfl
set_option maxRecDepth 10000 in
theorem zl_72 {I : Nat → Nat → Int} {A : Nat → Int → Int} {W : qWt} {j : Int} {k : Int32 → qR} (h0 : 0 ≤ j) (h1 : j < 150) : q_ald (zM I A W) (.ref 72) 0 (zI j) k = k (zI (A 72 j)) := zx_ld rfl (by decide) h0 h1
set_option maxRecDepth 10000 in
theorem zs_72 {I : Nat → Nat → Int} {A : Nat → Int → Int} {W : qWt} {j x : Int} {k : qH → qR} (h0 : 0 ≤ j) (h1 : j < 150) : q_ast (zM I A W) (.ref 72) 0 (zI j) (zI x) k = k (zM I (ua A 72 (up (A 72) j x)) W) := zx_st rfl (by decide) (by decide) rfl h0 h1
set_option maxRecDepth 10000 in
theorem zn_72 {I : Nat → Nat → Int} {A : Nat → Int → Int} {W : qWt} {k : Int32 → qR} : q_len (zM I A W) (.ref 72) k = k (zI 150) := rfl
set_option maxRecDepth 10000 in
theorem zl_73 {I : Nat → Nat → Int} {A : Nat → Int → Int} {W : qWt} {j : Int} {k : Int32 → qR} (h0 : 0 ≤ j) (h1 : j < 9) : q_ald (zM I A W) (.ref 73) 0 (zI j) k = k (zI (A 73 j)) := zx_ld rfl (by decide) h0 h1
set_option maxRecDepth 10000 in
theorem zs_73 {I : Nat → Nat → Int} {A : Nat → Int → Int} {W : qWt} {j x : Int} {k : qH → qR} (h0 : 0 ≤ j) (h1 : j < 9) : q_ast (zM I A W) (.ref 73) 0 (zI j) (zI x) k = k (zM I (ua A 73 (up (A 73) j x)) W) := zx_st rfl (by decide) (by decide) rfl h0 h1
set_option maxRecDepth 10000 in
theorem zn_73 {I : Nat → Nat → Int} {A : Nat → Int → Int} {W : qWt} {k : Int32 → qR} : q_len (zM I A W) (.ref 73) k = k (zI 9) := rfl
set_option maxRecDepth 10000 in
theorem zl_74 {I : Nat → Nat → Int} {A : Nat → Int → Int} {W : qWt} {j : Int} {k : Int32 → qR} (h0 : 0 ≤ j) (h1 : j < 150) : q_ald (zM I A W) (.ref 74) 0 (zI j) k = k (zI (A 74 j)) := zx_ld rfl (by decide) h0 h1
set_option maxRecDepth 10000 in
theorem zs_74 {I : Nat → Nat → Int} {A : Nat → Int → Int} {W : qWt} {j x : Int} {k : qH → qR} (h0 : 0 ≤ j) (h1 : j < 150) : q_ast (zM I A W) (.ref 74) 0 (zI j) (zI x) k = k (zM I (ua A 74 (up (A 74) j x)) W) := zx_st rfl (by decide) (by decide) rfl h0 h1
set_option maxRecDepth 10000 in
theorem zn_74 {I : Nat → Nat → Int} {A : Nat → Int → Int} {W : qWt} {k : Int32 → qR} : q_len (zM I A W) (.ref 74) k = k (zI 150) := rfl
set_option maxRecDepth 10000 in
theorem zl_75 {I : Nat → Nat → Int} {A : Nat → Int → Int} {W : qWt} {j : Int} {k : Int32 → qR} (h0 : 0 ≤ j) (h1 : j < 150) : q_ald (zM I A W) (.ref 75) 0 (zI j) k = k (zI (A 75 j)) := zx_ld rfl (by decide) h0 h1
set_option maxRecDepth 10000 in
theorem zs_75 {I : Nat → Nat → Int} {A : Nat → Int → Int} {W : qWt} {j x : Int} {k : qH → qR} (h0 : 0 ≤ j) (h1 : j < 150) : q_ast (zM I A W) (.ref 75) 0 (zI j) (zI x) k = k (zM I (ua A 75 (up (A 75) j x)) W) := zx_st rfl (by decide) (by decide) rfl h0 h1
set_option maxRecDepth 10000 in
theorem zn_75 {I : Nat → Nat → Int} {A : Nat → Int → Int} {W : qWt} {k : Int32 → qR} : q_len (zM I A W) (.ref 75) k = k (zI 150) := rfl
set_option maxRecDepth 10000 in
theorem zl_76 {I : Nat → Nat → Int} {A : Nat → Int → Int} {W : qWt} {j : Int} {k : Int32 → qR} (h0 : 0 ≤ j) (h1 : j < 47) : q_ald (zM I A W) (.ref 76) 0 (zI j) k = k (zI (A 76 j)) := zx_ld rfl (by decide) h0 h1
set_option maxRecDepth 10000 in
theorem zs_76 {I : Nat → Nat → Int} {A : Nat → Int → Int} {W : qWt} {j x : Int} {k : qH → qR} (h0 : 0 ≤ j) (h1 : j < 47) : q_ast (zM I A W) (.ref 76) 0 (zI j) (zI x) k = k (zM I (ua A 76 (up (A 76) j x)) W) := zx_st rfl (by decide) (by decide) rfl h0 h1
set_option maxRecDepth 10000 in
theorem zn_76 {I : Nat → Nat → Int} {A : Nat → Int → Int} {W : qWt} {k : Int32 → qR} : q_len (zM I A W) (.ref 76) k = k (zI 47) := rfl
set_option maxRecDepth 10000 in
theorem zl_77 {I : Nat → Nat → Int} {A : Nat → Int → Int} {W : qWt} {j : Int} {k : Int32 → qR} (h0 : 0 ≤ j) (h1 : j < 47) : q_ald (zM I A W) (.ref 77) 0 (zI j) k = k (zI (A 77 j)) := zx_ld rfl (by decide) h0 h1
set_option maxRecDepth 10000 in
theorem zs_77 {I : Nat → Nat → Int} {A : Nat → Int → Int} {W : qWt} {j x : Int} {k : qH → qR} (h0 : 0 ≤ j) (h1 : j < 47) : q_ast (zM I A W) (.ref 77) 0 (zI j) (zI x) k = k (zM I (ua A 77 (up (A 77) j x)) W) := zx_st rfl (by decide) (by decide) rfl h0 h1
set_option maxRecDepth 10000 in
theorem zn_77 {I : Nat → Nat → Int} {A : Nat → Int → Int} {W : qWt} {k : Int32 → qR} : q_len (zM I A W) (.ref 77) k = k (zI 47) := rfl
set_option maxRecDepth 10000 in
theorem zl_78 {I : Nat → Nat → Int} {A : Nat → Int → Int} {W : qWt} {j : Int} {k : Int32 → qR} (h0 : 0 ≤ j) (h1 : j < 752) : q_ald (zM I A W) (.ref 78) 0 (zI j) k = k (zI (A 78 j)) := zx_ld rfl (by decide) h0 h1
set_option maxRecDepth 10000 in
theorem zs_78 {I : Nat → Nat → Int} {A : Nat → Int → Int} {W : qWt} {j x : Int} {k : qH → qR} (h0 : 0 ≤ j) (h1 : j < 752) : q_ast (zM I A W) (.ref 78) 0 (zI j) (zI x) k = k (zM I (ua A 78 (up (A 78) j x)) W) := zx_st rfl (by decide) (by decide) rfl h0 h1
set_option maxRecDepth 10000 in
theorem zn_78 {I : Nat → Nat → Int} {A : Nat → Int → Int} {W : qWt} {k : Int32 → qR} : q_len (zM I A W) (.ref 78) k = k (zI 752) := rfl
set_option maxRecDepth 10000 in
theorem zl_79 {I : Nat → Nat → Int} {A : Nat → Int → Int} {W : qWt} {j : Int} {k : Int32 → qR} (h0 : 0 ≤ j) (h1 : j < 10) : q_bld (zM I A W) (.ref 79) (zI j) k = k (zI (A 79 j)) := zx_bl rfl (by decide) (by decide) h0 h1
set_option maxRecDepth 10000 in
theorem zs_79 {I : Nat → Nat → Int} {A : Nat → Int → Int} {W : qWt} {j x : Int} {k : qH → qR} (h0 : 0 ≤ j) (h1 : j < 10) (hx : x = 0 ∨ x = 1) : q_bst (zM I A W) (.ref 79) (zI j) (zI x) k = k (zM I (ua A 79 (up (A 79) j x)) W) := zx_bs rfl (by decide) (by decide) rfl h0 h1 hx
set_option maxRecDepth 10000 in
theorem zn_79 {I : Nat → Nat → Int} {A : Nat → Int → Int} {W : qWt} {k : Int32 → qR} : q_len (zM I A W) (.ref 79) k = k (zI 10) := rfl
set_option maxRecDepth 10000 in
theorem zl_80 {I : Nat → Nat → Int} {A : Nat → Int → Int} {W : qWt} {j : Int} {k : Int32 → qR} (h0 : 0 ≤ j) (h1 : j < 9) : q_ald (zM I A W) (.ref 80) 0 (zI j) k = k (zI (A 80 j)) := zx_ld rfl (by decide) h0 h1
set_option maxRecDepth 10000 in
theorem zs_80 {I : Nat → Nat → Int} {A : Nat → Int → Int} {W : qWt} {j x : Int} {k : qH → qR} (h0 : 0 ≤ j) (h1 : j < 9) : q_ast (zM I A W) (.ref 80) 0 (zI j) (zI x) k = k (zM I (ua A 80 (up (A 80) j x)) W) := zx_st rfl (by decide) (by decide) rfl h0 h1
set_option maxRecDepth 10000 in
theorem zn_80 {I : Nat → Nat → Int} {A : Nat → Int → Int} {W : qWt} {k : Int32 → qR} : q_len (zM I A W) (.ref 80) k = k (zI 9) := rfl
set_option maxRecDepth 10000 in
theorem zl_81 {I : Nat → Nat → Int} {A : Nat → Int → Int} {W : qWt} {j : Int} {k : Int32 → qR} (h0 : 0 ≤ j) (h1 : j < 9) : q_ald (zM I A W) (.ref 81) 0 (zI j) k = k (zI (A 81 j)) := zx_ld rfl (by decide) h0 h1
set_option maxRecDepth 10000 in
theorem zs_81 {I : Nat → Nat → Int} {A : Nat → Int → Int} {W : qWt} {j x : Int} {k : qH → qR} (h0 : 0 ≤ j) (h1 : j < 9) : q_ast (zM I A W) (.ref 81) 0 (zI j) (zI x) k = k (zM I (ua A 81 (up (A 81) j x)) W) := zx_st rfl (by decide) (by decide) rfl h0 h1
set_option maxRecDepth 10000 in
theorem zn_81 {I : Nat → Nat → Int} {A : Nat → Int → Int} {W : qWt} {k : Int32 → qR} : q_len (zM I A W) (.ref 81) k = k (zI 9) := rfl
set_option maxRecDepth 10000 in
theorem zl_82 {I : Nat → Nat → Int} {A : Nat → Int → Int} {W : qWt} {j : Int} {k : Int32 → qR} (h0 : 0 ≤ j) (h1 : j < 30) : q_ald (zM I A W) (.ref 82) 0 (zI j) k = k (zI (A 82 j)) := zx_ld rfl (by decide) h0 h1
set_option maxRecDepth 10000 in
theorem zs_82 {I : Nat → Nat → Int} {A : Nat → Int → Int} {W : qWt} {j x : Int} {k : qH → qR} (h0 : 0 ≤ j) (h1 : j < 30) : q_ast (zM I A W) (.ref 82) 0 (zI j) (zI x) k = k (zM I (ua A 82 (up (A 82) j x)) W) := zx_st rfl (by decide) (by decide) rfl h0 h1
set_option maxRecDepth 10000 in
theorem zn_82 {I : Nat → Nat → Int} {A : Nat → Int → Int} {W : qWt} {k : Int32 → qR} : q_len (zM I A W) (.ref 82) k = k (zI 30) := rfl
set_option maxRecDepth 10000 in
theorem zl_83 {I : Nat → Nat → Int} {A : Nat → Int → Int} {W : qWt} {j : Int} {k : Int32 → qR} (h0 : 0 ≤ j) (h1 : j < 30) : q_ald (zM I A W) (.ref 83) 0 (zI j) k = k (zI (A 83 j)) := zx_ld rfl (by decide) h0 h1
set_option maxRecDepth 10000 in
theorem zs_83 {I : Nat → Nat → Int} {A : Nat → Int → Int} {W : qWt} {j x : Int} {k : qH → qR} (h0 : 0 ≤ j) (h1 : j < 30) : q_ast (zM I A W) (.ref 83) 0 (zI j) (zI x) k = k (zM I (ua A 83 (up (A 83) j x)) W) := zx_st rfl (by decide) (by decide) rfl h0 h1
set_option maxRecDepth 10000 in
theorem zn_83 {I : Nat → Nat → Int} {A : Nat → Int → Int} {W : qWt} {k : Int32 → qR} : q_len (zM I A W) (.ref 83) k = k (zI 30) := rfl
set_option maxRecDepth 10000 in
theorem zl_84 {I : Nat → Nat → Int} {A : Nat → Int → Int} {W : qWt} {j : Int} {k : Int32 → qR} (h0 : 0 ≤ j) (h1 : j < 30) : q_ald (zM I A W) (.ref 84) 0 (zI j) k = k (zI (A 84 j)) := zx_ld rfl (by decide) h0 h1
set_option maxRecDepth 10000 in
theorem zs_84 {I : Nat → Nat → Int} {A : Nat → Int → Int} {W : qWt} {j x : Int} {k : qH → qR} (h0 : 0 ≤ j) (h1 : j < 30) : q_ast (zM I A W) (.ref 84) 0 (zI j) (zI x) k = k (zM I (ua A 84 (up (A 84) j x)) W) := zx_st rfl (by decide) (by decide) rfl h0 h1
set_option maxRecDepth 10000 in
theorem zn_84 {I : Nat → Nat → Int} {A : Nat → Int → Int} {W : qWt} {k : Int32 → qR} : q_len (zM I A W) (.ref 84) k = k (zI 30) := rfl
set_option maxRecDepth 10000 in
theorem zl_85 {I : Nat → Nat → Int} {A : Nat → Int → Int} {W : qWt} {j : Int} {k : Int32 → qR} (h0 : 0 ≤ j) (h1 : j < 4) : q_ald (zM I A W) (.ref 85) 0 (zI j) k = k (zI (A 85 j)) := zx_ld rfl (by decide) h0 h1
set_option maxRecDepth 10000 in
theorem zs_85 {I : Nat → Nat → Int} {A : Nat → Int → Int} {W : qWt} {j x : Int} {k : qH → qR} (h0 : 0 ≤ j) (h1 : j < 4) : q_ast (zM I A W) (.ref 85) 0 (zI j) (zI x) k = k (zM I (ua A 85 (up (A 85) j x)) W) := zx_st rfl (by decide) (by decide) rfl h0 h1
set_option maxRecDepth 10000 in
theorem zn_85 {I : Nat → Nat → Int} {A : Nat → Int → Int} {W : qWt} {k : Int32 → qR} : q_len (zM I A W) (.ref 85) k = k (zI 4) := rfl
set_option maxRecDepth 10000 in
theorem zl_86 {I : Nat → Nat → Int} {A : Nat → Int → Int} {W : qWt} {j : Int} {k : Int32 → qR} (h0 : 0 ≤ j) (h1 : j < 4) : q_ald (zM I A W) (.ref 86) 0 (zI j) k = k (zI (A 86 j)) := zx_ld rfl (by decide) h0 h1
set_option maxRecDepth 10000 in
theorem zs_86 {I : Nat → Nat → Int} {A : Nat → Int → Int} {W : qWt} {j x : Int} {k : qH → qR} (h0 : 0 ≤ j) (h1 : j < 4) : q_ast (zM I A W) (.ref 86) 0 (zI j) (zI x) k = k (zM I (ua A 86 (up (A 86) j x)) W) := zx_st rfl (by decide) (by decide) rfl h0 h1
set_option maxRecDepth 10000 in
theorem zn_86 {I : Nat → Nat → Int} {A : Nat → Int → Int} {W : qWt} {k : Int32 → qR} : q_len (zM I A W) (.ref 86) k = k (zI 4) := rfl
set_option maxRecDepth 10000 in
theorem zl_87 {I : Nat → Nat → Int} {A : Nat → Int → Int} {W : qWt} {j : Int} {k : Int32 → qR} (h0 : 0 ≤ j) (h1 : j < 61) : q_ald (zM I A W) (.ref 87) 0 (zI j) k = k (zI (A 87 j)) := zx_ld rfl (by decide) h0 h1
set_option maxRecDepth 10000 in
theorem zs_87 {I : Nat → Nat → Int} {A : Nat → Int → Int} {W : qWt} {j x : Int} {k : qH → qR} (h0 : 0 ≤ j) (h1 : j < 61) : q_ast (zM I A W) (.ref 87) 0 (zI j) (zI x) k = k (zM I (ua A 87 (up (A 87) j x)) W) := zx_st rfl (by decide) (by decide) rfl h0 h1
set_option maxRecDepth 10000 in
theorem zn_87 {I : Nat → Nat → Int} {A : Nat → Int → Int} {W : qWt} {k : Int32 → qR} : q_len (zM I A W) (.ref 87) k = k (zI 61) := rfl
set_option maxRecDepth 10000 in
theorem zl_88 {I : Nat → Nat → Int} {A : Nat → Int → Int} {W : qWt} {j : Int} {k : Int32 → qR} (h0 : 0 ≤ j) (h1 : j < 2400) : q_ald (zM I A W) (.ref 88) 0 (zI j) k = k (zI (A 88 j)) := zx_ld rfl (by decide) h0 h1
set_option maxRecDepth 10000 in
theorem zs_88 {I : Nat → Nat → Int} {A : Nat → Int → Int} {W : qWt} {j x : Int} {k : qH → qR} (h0 : 0 ≤ j) (h1 : j < 2400) : q_ast (zM I A W) (.ref 88) 0 (zI j) (zI x) k = k (zM I (ua A 88 (up (A 88) j x)) W) := zx_st rfl (by decide) (by decide) rfl h0 h1
set_option maxRecDepth 10000 in
theorem zn_88 {I : Nat → Nat → Int} {A : Nat → Int → Int} {W : qWt} {k : Int32 → qR} : q_len (zM I A W) (.ref 88) k = k (zI 2400) := rfl
set_option maxRecDepth 10000 in
theorem zn_89 {I : Nat → Nat → Int} {A : Nat → Int → Int} {W : qWt} {k : Int32 → qR} : q_len (zM I A W) (.ref 89) k = k (zI 1) := rfl
set_option maxRecDepth 10000 in
theorem zc_25_58 {I : Nat → Nat → Int} {A : Nat → Int → Int} {W : qWt} {k : qH → qR} : q_cpy (zM I A W) (.ref 25) (zI 0) (.ref 58) (zI 0) (zI 10) k = k (zM I (ua A 58 (uc (A 25) (A 58) 0 0 10)) W) := zx_cp (n := 10) (n' := 37) rfl rfl (by decide) (by decide) (by decide) (by decide) rfl (by decide) (by decide) (by decide) (by decide) (by decide)
set_option maxRecDepth 10000 in
theorem zc_58_25 {I : Nat → Nat → Int} {A : Nat → Int → Int} {W : qWt} {k : qH → qR} : q_cpy (zM I A W) (.ref 58) (zI 0) (.ref 25) (zI 0) (zI 10) k = k (zM I (ua A 25 (uc (A 58) (A 25) 0 0 10)) W) := zx_cp (n := 37) (n' := 10) rfl rfl (by decide) (by decide) (by decide) (by decide) rfl (by decide) (by decide) (by decide) (by decide) (by decide)
set_option maxRecDepth 10000 in
theorem zc_26_58 {I : Nat → Nat → Int} {A : Nat → Int → Int} {W : qWt} {k : qH → qR} : q_cpy (zM I A W) (.ref 26) (zI 0) (.ref 58) (zI 10) (zI 10) k = k (zM I (ua A 58 (uc (A 26) (A 58) 0 10 10)) W) := zx_cp (n := 10) (n' := 37) rfl rfl (by decide) (by decide) (by decide) (by decide) rfl (by decide) (by decide) (by decide) (by decide) (by decide)
set_option maxRecDepth 10000 in
theorem zc_58_26 {I : Nat → Nat → Int} {A : Nat → Int → Int} {W : qWt} {k : qH → qR} : q_cpy (zM I A W) (.ref 58) (zI 10) (.ref 26) (zI 0) (zI 10) k = k (zM I (ua A 26 (uc (A 58) (A 26) 10 0 10)) W) := zx_cp (n := 37) (n' := 10) rfl rfl (by decide) (by decide) (by decide) (by decide) rfl (by decide) (by decide) (by decide) (by decide) (by decide)
set_option maxRecDepth 10000 in
theorem zc_27_58 {I : Nat → Nat → Int} {A : Nat → Int → Int} {W : qWt} {k : qH → qR} : q_cpy (zM I A W) (.ref 27) (zI 0) (.ref 58) (zI 20) (zI 10) k = k (zM I (ua A 58 (uc (A 27) (A 58) 0 20 10)) W) := zx_cp (n := 10) (n' := 37) rfl rfl (by decide) (by decide) (by decide) (by decide) rfl (by decide) (by decide) (by decide) (by decide) (by decide)
set_option maxRecDepth 10000 in
theorem zc_58_27 {I : Nat → Nat → Int} {A : Nat → Int → Int} {W : qWt} {k : qH → qR} : q_cpy (zM I A W) (.ref 58) (zI 20) (.ref 27) (zI 0) (zI 10) k = k (zM I (ua A 27 (uc (A 58) (A 27) 20 0 10)) W) := zx_cp (n := 37) (n' := 10) rfl rfl (by decide) (by decide) (by decide) (by decide) rfl (by decide) (by decide) (by decide) (by decide) (by decide)
set_option maxRecDepth 10000 in
theorem zc_28_58 {I : Nat → Nat → Int} {A : Nat → Int → Int} {W : qWt} {k : qH → qR} : q_cpy (zM I A W) (.ref 28) (zI 0) (.ref 58) (zI 30) (zI 5) k = k (zM I (ua A 58 (uc (A 28) (A 58) 0 30 5)) W) := zx_cp (n := 5) (n' := 37) rfl rfl (by decide) (by decide) (by decide) (by decide) rfl (by decide) (by decide) (by decide) (by decide) (by decide)
set_option maxRecDepth 10000 in
theorem zc_58_28 {I : Nat → Nat → Int} {A : Nat → Int → Int} {W : qWt} {k : qH → qR} : q_cpy (zM I A W) (.ref 58) (zI 30) (.ref 28) (zI 0) (zI 5) k = k (zM I (ua A 28 (uc (A 58) (A 28) 30 0 5)) W) := zx_cp (n := 37) (n' := 5) rfl rfl (by decide) (by decide) (by decide) (by decide) rfl (by decide) (by decide) (by decide) (by decide) (by decide)
set_option maxRecDepth 10000 in
theorem zc_31_58 {I : Nat → Nat → Int} {A : Nat → Int → Int} {W : qWt} {k : qH → qR} : q_cpy (zM I A W) (.ref 31) (zI 0) (.ref 58) (zI 0) (zI 10) k = k (zM I (ua A 58 (uc (A 31) (A 58) 0 0 10)) W) := zx_cp (n := 10) (n' := 37) rfl rfl (by decide) (by decide) (by decide) (by decide) rfl (by decide) (by decide) (by decide) (by decide) (by decide)
set_option maxRecDepth 10000 in
theorem zc_58_31 {I : Nat → Nat → Int} {A : Nat → Int → Int} {W : qWt} {k : qH → qR} : q_cpy (zM I A W) (.ref 58) (zI 0) (.ref 31) (zI 0) (zI 10) k = k (zM I (ua A 31 (uc (A 58) (A 31) 0 0 10)) W) := zx_cp (n := 37) (n' := 10) rfl rfl (by decide) (by decide) (by decide) (by decide) rfl (by decide) (by decide) (by decide) (by decide) (by decide)
set_option maxRecDepth 10000 in
theorem zc_32_58 {I : Nat → Nat → Int} {A : Nat → Int → Int} {W : qWt} {k : qH → qR} : q_cpy (zM I A W) (.ref 32) (zI 0) (.ref 58) (zI 10) (zI 10) k = k (zM I (ua A 58 (uc (A 32) (A 58) 0 10 10)) W) := zx_cp (n := 10) (n' := 37) rfl rfl (by decide) (by decide) (by decide) (by decide) rfl (by decide) (by decide) (by decide) (by decide) (by decide)
set_option maxRecDepth 10000 in
theorem zc_58_32 {I : Nat → Nat → Int} {A : Nat → Int → Int} {W : qWt} {k : qH → qR} : q_cpy (zM I A W) (.ref 58) (zI 10) (.ref 32) (zI 0) (zI 10) k = k (zM I (ua A 32 (uc (A 58) (A 32) 10 0 10)) W) := zx_cp (n := 37) (n' := 10) rfl rfl (by decide) (by decide) (by decide) (by decide) rfl (by decide) (by decide) (by decide) (by decide) (by decide)
set_option maxRecDepth 10000 in
theorem zc_33_58 {I : Nat → Nat → Int} {A : Nat → Int → Int} {W : qWt} {k : qH → qR} : q_cpy (zM I A W) (.ref 33) (zI 0) (.ref 58) (zI 20) (zI 10) k = k (zM I (ua A 58 (uc (A 33) (A 58) 0 20 10)) W) := zx_cp (n := 10) (n' := 37) rfl rfl (by decide) (by decide) (by decide) (by decide) rfl (by decide) (by decide) (by decide) (by decide) (by decide)
set_option maxRecDepth 10000 in
theorem zc_58_33 {I : Nat → Nat → Int} {A : Nat → Int → Int} {W : qWt} {k : qH → qR} : q_cpy (zM I A W) (.ref 58) (zI 20) (.ref 33) (zI 0) (zI 10) k = k (zM I (ua A 33 (uc (A 58) (A 33) 20 0 10)) W) := zx_cp (n := 37) (n' := 10) rfl rfl (by decide) (by decide) (by decide) (by decide) rfl (by decide) (by decide) (by decide) (by decide) (by decide)
set_option maxRecDepth 10000 in
theorem zc_34_58 {I : Nat → Nat → Int} {A : Nat → Int → Int} {W : qWt} {k : qH → qR} : q_cpy (zM I A W) (.ref 34) (zI 0) (.ref 58) (zI 30) (zI 5) k = k (zM I (ua A 58 (uc (A 34) (A 58) 0 30 5)) W) := zx_cp (n := 5) (n' := 37) rfl rfl (by decide) (by decide) (by decide) (by decide) rfl (by decide) (by decide) (by decide) (by decide) (by decide)
set_option maxRecDepth 10000 in
theorem zc_58_34 {I : Nat → Nat → Int} {A : Nat → Int → Int} {W : qWt} {k : qH → qR} : q_cpy (zM I A W) (.ref 58) (zI 30) (.ref 34) (zI 0) (zI 5) k = k (zM I (ua A 34 (uc (A 58) (A 34) 30 0 5)) W) := zx_cp (n := 37) (n' := 5) rfl rfl (by decide) (by decide) (by decide) (by decide) rfl (by decide) (by decide) (by decide) (by decide) (by decide)
set_option maxRecDepth 10000 in
theorem zc_13_6 {I : Nat → Nat → Int} {A : Nat → Int → Int} {W : qWt} {k : qH → qR} : q_cpy (zM I A W) (.ref 13) (zI 0) (.ref 6) (zI 0) (zI 5) k = k (zM I (ua A 6 (uc (A 13) (A 6) 0 0 5)) W) := zx_cp (n := 5) (n' := 5) rfl rfl (by decide) (by decide) (by decide) (by decide) rfl (by decide) (by decide) (by decide) (by decide) (by decide)
set_option maxRecDepth 10000 in
theorem zc_14_7 {I : Nat → Nat → Int} {A : Nat → Int → Int} {W : qWt} {k : qH → qR} : q_cpy (zM I A W) (.ref 14) (zI 0) (.ref 7) (zI 0) (zI 10) k = k (zM I (ua A 7 (uc (A 14) (A 7) 0 0 10)) W) := zx_cp (n := 10) (n' := 10) rfl rfl (by decide) (by decide) (by decide) (by decide) rfl (by decide) (by decide) (by decide) (by decide) (by decide)
set_option maxRecDepth 10000 in
theorem zc_15_8 {I : Nat → Nat → Int} {A : Nat → Int → Int} {W : qWt} {k : qH → qR} : q_cpy (zM I A W) (.ref 15) (zI 0) (.ref 8) (zI 0) (zI 10) k = k (zM I (ua A 8 (uc (A 15) (A 8) 0 0 10)) W) := zx_cp (n := 10) (n' := 10) rfl rfl (by decide) (by decide) (by decide) (by decide) rfl (by decide) (by decide) (by decide) (by decide) (by decide)
set_option maxRecDepth 10000 in
theorem zc_16_9 {I : Nat → Nat → Int} {A : Nat → Int → Int} {W : qWt} {k : qH → qR} : q_cpy (zM I A W) (.ref 16) (zI 0) (.ref 9) (zI 0) (zI 10) k = k (zM I (ua A 9 (uc (A 16) (A 9) 0 0 10)) W) := zx_cp (n := 10) (n' := 10) rfl rfl (by decide) (by decide) (by decide) (by decide) rfl (by decide) (by decide) (by decide) (by decide) (by decide)
set_option maxRecDepth 10000 in
theorem zc_17_10 {I : Nat → Nat → Int} {A : Nat → Int → Int} {W : qWt} {k : qH → qR} : q_cpy (zM I A W) (.ref 17) (zI 0) (.ref 10) (zI 0) (zI 4) k = k (zM I (ua A 10 (uc (A 17) (A 10) 0 0 4)) W) := zx_cp (n := 4) (n' := 4) rfl rfl (by decide) (by decide) (by decide) (by decide) rfl (by decide) (by decide) (by decide) (by decide) (by decide)
set_option maxRecDepth 10000 in
theorem zc_18_11 {I : Nat → Nat → Int} {A : Nat → Int → Int} {W : qWt} {k : qH → qR} : q_cpy (zM I A W) (.ref 18) (zI 0) (.ref 11) (zI 0) (zI 4) k = k (zM I (ua A 11 (uc (A 18) (A 11) 0 0 4)) W) := zx_cp (n := 4) (n' := 4) rfl rfl (by decide) (by decide) (by decide) (by decide) rfl (by decide) (by decide) (by decide) (by decide) (by decide)
set_option maxRecDepth 10000 in
theorem zc_38_37 {I : Nat → Nat → Int} {A : Nat → Int → Int} {W : qWt} {k : qH → qR} : q_cpy (zM I A W) (.ref 38) (zI 0) (.ref 37) (zI 0) (zI 10) k = k (zM I (ua A 37 (uc (A 38) (A 37) 0 0 10)) W) := zx_cp (n := 10) (n' := 10) rfl rfl (by decide) (by decide) (by decide) (by decide) rfl (by decide) (by decide) (by decide) (by decide) (by decide)
set_option maxRecDepth 10000 in
theorem zc_21_20 {I : Nat → Nat → Int} {A : Nat → Int → Int} {W : qWt} {m : Int} {k : qH → qR} (h0 : 0 ≤ m) (h1 : m ≤ 150) : q_cpy (zM I A W) (.ref 21) (zI 0) (.ref 20) (zI 0) (zI m) k = k (zM I (ua A 20 (uc (A 21) (A 20) 0 0 m)) W) := zx_cp (n := 150) (n' := 150) rfl rfl (by decide) (by decide) (by decide) (by decide) rfl (by decide) (by show 0 + m ≤ 150; omega) (by decide) (by show 0 + m ≤ 150; omega) h0
