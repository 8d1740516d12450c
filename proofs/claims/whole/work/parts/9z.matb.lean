--DEPS 9y.matn
/-! Bits, once more: or, and not, one bit, the bits of a number. -/
theorem bts_tN (n : Nat) (r : Nat → Bool) : ∃ m : Nat, bts n r = m ∧ m < 2 ^ n ∧ ∀ i, Nat.testBit m i = (decide (i < n) && r i) := by
  obtain ⟨m, hm⟩ := Int.eq_ofNat_of_zero_le (bts_lo n r)
  have h1 := bts_hi n r
  rw [hm] at h1
  have h2 : m < 2 ^ n := by
    have : ((2 ^ n : Nat) : Int) = 2 ^ n := by rw [Int.natCast_pow]; rfl
    omega
  refine ⟨m, hm, h2, fun i => ?_⟩
  rw [Nat.testBit_eq_decide_div_mod_eq]
  by_cases hi : i < n
  · have e := bts_div (p := r) hi
    rw [hm] at e
    have e2 : ((m / 2 ^ i % 2 : Nat) : Int) = if r i = true then 1 else 0 := by
      rw [← e, Int.natCast_emod, Int.natCast_ediv, Int.natCast_pow]; rfl
    cases hr : r i
    · rw [hr, if_neg (by decide)] at e2
      have : ¬ (m / 2 ^ i % 2 = 1) := by omega
      simp [hi, this]
    · rw [hr, if_pos rfl] at e2
      have : m / 2 ^ i % 2 = 1 := by omega
      simp [hi, this]
  · have h3 : m < 2 ^ i := Nat.lt_of_lt_of_le h2 (Nat.pow_le_pow_right (by decide) (by omega))
    rw [Nat.div_eq_of_lt h3]
    simp [hi]
theorem zorn (m n : Nat) : zI (m : Int) ||| zI (n : Int) = zI ((m ||| n : Nat) : Int) := by
  refine Int32.toBitVec_inj.1 ?_
  rw [Int32.toBitVec_or]
  show BitVec.ofInt 32 _ ||| BitVec.ofInt 32 _ = BitVec.ofInt 32 _
  rw [BitVec.ofInt_natCast, BitVec.ofInt_natCast, BitVec.ofInt_natCast, BitVec.ofNat_or]
theorem bts_or {n : Nat} {p q : Nat → Bool} : zI (bts n p) ||| zI (bts n q) = zI (bts n fun k => p k || q k) := by
  obtain ⟨a, ha, -, ta⟩ := bts_tN n p
  obtain ⟨b, hb, -, tb⟩ := bts_tN n q
  obtain ⟨c, hc, -, tc⟩ := bts_tN n fun k => p k || q k
  rw [ha, hb, hc, zorn]
  have : a ||| b = c := Nat.eq_of_testBit_eq fun i => by
    rw [Nat.testBit_or, ta, tb, tc]
    cases decide (i < n) <;> simp
  rw [this]
theorem bts_an {n : Nat} {p q : Nat → Bool} : zI (bts n p) &&& (zI (bts n q) ^^^ zI (-1)) = zI (bts n fun k => p k && !q k) := by
  obtain ⟨a, ha, -, ta⟩ := bts_tN n p
  obtain ⟨b, hb, -, tb⟩ := bts_tN n q
  obtain ⟨c, hc, -, tc⟩ := bts_tN n fun k => p k && !q k
  rw [ha, hb, hc]
  refine Int32.toBitVec_inj.1 ?_
  rw [Int32.toBitVec_and, Int32.toBitVec_xor]
  show BitVec.ofInt 32 _ &&& (BitVec.ofInt 32 _ ^^^ BitVec.allOnes 32) = BitVec.ofInt 32 _
  rw [BitVec.ofInt_natCast, BitVec.ofInt_natCast, BitVec.ofInt_natCast]
  refine BitVec.eq_of_getLsbD_eq fun i hi => ?_
  rw [BitVec.getLsbD_and, BitVec.getLsbD_xor, BitVec.getLsbD_ofNat, BitVec.getLsbD_ofNat, BitVec.getLsbD_ofNat, BitVec.getLsbD_allOnes, ta, tb, tc]
  cases decide (i < n) <;> cases p i <;> cases q i <;> simp [hi]
theorem bts_1 {n w : Nat} (hn : n ≤ 10) (hw : w < n) : zI 1 <<< (zI (w : Int) &&& zI 31) = zI (bts n fun i => decide (i = w)) := by
  have e : ∀ m, w < m → bts m (fun i => decide (i = w)) = 2 ^ w := by
    intro m
    induction m with
    | zero => intro h; omega
    | succ m ih =>
      intro h
      show bts m _ + (if decide (m = w) = true then (2 : Int) ^ m else 0) = _
      by_cases q : m = w
      · subst q
        have : bts m (fun i => decide (i = m)) = 0 := bts_z.mpr fun k hk => by simp; omega
        rw [this, if_pos (by simp)]; omega
      · rw [ih (by omega), if_neg (by simpa using q)]; omega
  rw [e n hw]
  have d : ∀ j : Fin 10, zI 1 <<< (zI (j.val : Int) &&& zI 31) = zI (2 ^ j.val) := by decide
  exact d ⟨w, by omega⟩
theorem bts_nt {n m : Nat} (h : m < 2 ^ n) : (m : Int) = bts n fun i => Nat.testBit m i := by
  obtain ⟨c, hc, h2, tc⟩ := bts_tN n fun i => Nat.testBit m i
  rw [hc]
  congr 1
  refine Nat.eq_of_testBit_eq fun i => ?_
  rw [tc]
  by_cases hi : i < n
  · simp [hi]
  · have : m < 2 ^ i := Nat.lt_of_lt_of_le h (Nat.pow_le_pow_right (by decide) (by omega))
    rw [Nat.testBit_lt_two_pow this]; simp
theorem sh4 {n : Nat} (hn : n ≤ 4) : zI 1 <<< (zI (n : Int) &&& zI 31) = zI ((2 ^ n : Nat) : Int) := by
  have d : ∀ j : Fin 5, zI 1 <<< (zI (j.val : Int) &&& zI 31) = zI ((2 ^ j.val : Nat) : Int) := by decide
  exact d ⟨n, by omega⟩
/-- no bit below f -/
theorem bts_low {n f m : Nat} (hn : n ≤ 4) (hf : f ≤ 4) (hm : m < 2 ^ n) : (zI (m : Int) &&& (zI 1 <<< (zI (f : Int) &&& zI 31) - zI 1) = zI 0) = ∀ i, Nat.testBit m i = true → f ≤ i := by
  have h16 : 2 ^ n ≤ 2 ^ 4 := Nat.pow_le_pow_right (by decide) hn
  have d : ∀ j : Fin 5, ∀ m : Fin 16, (zI (m.val : Int) &&& (zI 1 <<< (zI (j.val : Int) &&& zI 31) - zI 1) = zI 0) ↔ ∀ i : Fin 4, Nat.testBit m.val i.val = true → j.val ≤ i.val := by decide
  have e := d ⟨f, by omega⟩ ⟨m, by omega⟩
  refine propext (e.trans ⟨fun h i hi => ?_, fun h i hi => h i.val hi⟩)
  by_cases q : i < 4
  · exact h ⟨i, q⟩ hi
  · have : m < 2 ^ i := Nat.lt_of_lt_of_le (show m < 2 ^ 4 by omega) (Nat.pow_le_pow_right (by decide) (by omega))
    rw [Nat.testBit_lt_two_pow this] at hi; cases hi
