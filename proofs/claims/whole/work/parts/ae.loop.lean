--DEPS ad.ls
section LP
variable {I : Nat → Nat → Int} {A : Nat → Int → Int} {W : qWt} {c n d i : Nat} {f : Nat → Int32}
theorem and63_b (v : Int32) : 0 ≤ (v &&& zI 63).toInt ∧ (v &&& zI 63).toInt ≤ 63 := by
  have h1 : (v &&& zI 63).toBitVec.toNat ≤ 63 := by
    rw [Int32.toBitVec_and, BitVec.toNat_and]
    exact Nat.and_le_right
  have h2 : (v &&& zI 63).toInt = (v &&& zI 63).toBitVec.toInt := rfl
  rw [h2, BitVec.toInt_eq_toNat_of_lt (by omega)]
  omega
theorem ofN (n : Nat) : Int32.ofNat n = zI n := Int32.toBitVec_inj.1 (by
  show BitVec.ofNat 32 n = BitVec.ofInt 32 n
  rw [BitVec.ofInt_natCast])
/-- one turn -/
theorem law_turn {p5 p6 : Value} (hd : 140 ≤ d) (hI : Ivs c n f I A W) (hi : i + 10 ≤ n) (hb5 : n ≤ 5120) (x : Int32) : ∃ I2 A2 W2 l5 l6, Ivs (c + 1) n f I2 A2 W2 ∧ q_run qm_L_law_ (q_call q_MT (d + 1)) 40 [.ref 0, .ref 2, .ref 59, .ref 89, .int (zI i), p5, p6] [.int (x &&& zI 63)] (zM I A W) = q_run qm_L_law_ (q_call q_MT (d + 1)) 23 [.ref 0, .ref 2, .ref 59, .ref 89, .int (zI ((i : Int) + 10)), l5, l6] [] (zM I2 A2 W2) := by
  have hb := and63_b x
  have e : x &&& zI 63 = zI (x &&& zI 63).toInt := (zI_of _).symm
  generalize (x &&& zI 63).toInt = t at hb e
  rw [e]
  by_cases q : 35 < t
  · have et := zI_toInt (x := t) (by omega) (by omega)
    refine ⟨I, A, W, p5, p6, hI.up, ?_⟩
    rw [k_L_law__40_d _ _ _ _ _ _ _ _ _ _ (.inr (by rw [et]; exact q)), k_L_law__2420]
    have : zI (i : Int) + (10 : Int32) = zI ((i : Int) + 10) := zadd i 10
    rw [this]
  · have : t = 0 ∨ t = 1 ∨ t = 2 ∨ t = 3 ∨ t = 4 ∨ t = 5 ∨ t = 6 ∨ t = 7 ∨ t = 8 ∨ t = 9 ∨ t = 10 ∨ t = 11 ∨ t = 12 ∨ t = 13 ∨ t = 14 ∨ t = 15 ∨ t = 16 ∨ t = 17 ∨ t = 18 ∨ t = 19 ∨ t = 20 ∨ t = 21 ∨ t = 22 ∨ t = 23 ∨ t = 24 ∨ t = 25 ∨ t = 26 ∨ t = 27 ∨ t = 28 ∨ t = 29 ∨ t = 30 ∨ t = 31 ∨ t = 32 ∨ t = 33 ∨ t = 34 ∨ t = 35 := by omega
    rcases this with rfl | rfl | rfl | rfl | rfl | rfl | rfl | rfl | rfl | rfl | rfl | rfl | rfl | rfl | rfl | rfl | rfl | rfl | rfl | rfl | rfl | rfl | rfl | rfl | rfl | rfl | rfl | rfl | rfl | rfl | rfl | rfl | rfl | rfl | rfl | rfl
    · exact LS_0 hd hI hi hb5
    · exact LS_1 hd hI hi hb5
    · exact LS_2 hd hI hi hb5
    · exact LS_3 hd hI hi hb5
    · exact LS_4 hd hI hi hb5
    · exact LS_5 hd hI hi hb5
    · exact LS_6 hd hI hi hb5
    · exact LS_7 hd hI hi hb5
    · exact LS_8 hd hI hi hb5
    · exact LS_9 hd hI hi hb5
    · exact LS_10 hd hI hi hb5
    · exact LS_11 hd hI hi hb5
    · exact LS_12 hd hI hi hb5
    · exact LS_13 hd hI hi hb5
    · exact LS_14 hd hI hi hb5
    · exact LS_15 hd hI hi hb5
    · exact LS_16 hd hI hi hb5
    · exact LS_17 hd hI hi hb5
    · exact LS_18 hd hI hi hb5
    · exact LS_19 hd hI hi hb5
    · exact LS_20 hd hI hi hb5
    · exact LS_21 hd hI hi hb5
    · exact LS_22 hd hI hi hb5
    · exact LS_23 hd hI hi hb5
    · exact LS_24 hd hI hi hb5
    · exact LS_25 hd hI hi hb5
    · exact LS_26 hd hI hi hb5
    · exact LS_27 hd hI hi hb5
    · exact LS_28 hd hI hi hb5
    · exact LS_29 hd hI hi hb5
    · exact LS_30 hd hI hi hb5
    · exact LS_31 hd hI hi hb5
    · exact LS_32 hd hI hi hb5
    · exact LS_33 hd hI hi hb5
    · exact LS_34 hd hI hi hb5
    · exact LS_35 hd hI hi hb5
theorem law_loop (hd : 140 ≤ d) (hb5 : n ≤ 5120) : ∀ (m c : Nat) (I : Nat → Nat → Int) (A : Nat → Int → Int) (W : qWt) (l5 l6 : Value), Ivs c n f I A W → 10 * c ≤ n → n - 10 * c < m → ∃ I2 A2 W2 c2, c2 ≤ 512 ∧ Ivs c2 n f I2 A2 W2 ∧ q_run qm_L_law_ (q_call q_MT (d + 1)) 23 [.ref 0, .ref 2, .ref 59, .ref 89, .int (zI ((10 * c : Nat) : Int)), l5, l6] [] (zM I A W) = some (.inl (some (.int (zI 1))), zM I2 A2 W2) := by
  intro m
  induction m with
  | zero => intro c I A W l5 l6 _ _ h; omega
  | succ m ih =>
    intro c I A W l5 l6 hI hc hm
    have hn := hI.2.1
    have hf := hI.2.2.1
    rw [k_L_law__23]
    by_cases q : 10 * c + 10 ≤ n
    · obtain ⟨I2, A2, W2, l5', l6', hI2, e⟩ := law_turn (p5 := l5) (p6 := l6) hd hI q hb5 (f (10 * c))
      obtain ⟨I3, A3, W3, c3, c4, hI3, e3⟩ := ih (c + 1) I2 A2 W2 l5' l6' hI2 (by omega) (by omega)
      refine ⟨I3, A3, W3, c3, c4, hI3, ?_⟩
      have e10 : ((10 * (c + 1) : Nat) : Int) = ((10 * c : Nat) : Int) + 10 := by omega
      rw [e10] at e3
      rw [e3] at e
      have z0 := fun (k : Int32 → qR) => z0_l (I := I) (A := A) (W := W) (j := ((10 * c : Nat) : Int)) (k := k) (by omega) (by omega) (by omega) (by omega)
      rw [z0_n, hn, ofN]
      have et : (((10 * c : Nat) : Int)).toNat = 10 * c := by omega
      simp only [z0, hf, et]
      have l10 : (10 : Int32) = zI 10 := rfl
      have l63 : (63 : Int32) = zI 63 := rfl
      rw [l10, l63, zsub, if_neg]
      · exact e
      · rw [zc_gt, zlt (by omega) (by omega) (by omega) (by omega)]
        omega
    · refine ⟨I, A, W, c, by omega, hI, ?_⟩
      rw [z0_n, hn, ofN]
      have l10 : (10 : Int32) = zI 10 := rfl
      rw [l10, zsub, if_pos]
      · rfl
      · rw [zc_gt, zlt (by omega) (by omega) (by omega) (by omega)]
        omega
end LP
