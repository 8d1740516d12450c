--DEPS 87.text 68.ask
/-! Words. -/
theorem zor (m n : Nat) : zI (m : Int) ||| zI (n : Int) = zI ((m ||| n : Nat) : Int) := by
  refine Int32.toBitVec_inj.1 ?_
  rw [Int32.toBitVec_or]
  show BitVec.ofInt 32 _ ||| BitVec.ofInt 32 _ = BitVec.ofInt 32 _
  rw [BitVec.ofInt_natCast, BitVec.ofInt_natCast, BitVec.ofInt_natCast, BitVec.ofNat_or]
theorem zsh5 (v : Int32) : v <<< (zI 5 &&& zI 31) = v * zI 32 := by
  refine Int32.toBitVec_inj.1 ?_
  rw [Int32.toBitVec_mul]
  show v.toBitVec <<< (5 : Nat) = v.toBitVec * (BitVec.twoPow 32 5)
  rw [BitVec.mul_twoPow_eq_shiftLeft]
theorem cat5 {v c : Int} (hv : 0 ≤ v) (hc : 0 ≤ c ∧ c < 32) : zI v <<< (zI 5 &&& zI 31) ||| zI c = zI (32 * v + c) := by
  rw [zsh5, zmul]
  obtain ⟨m, rfl⟩ := Int.eq_ofNat_of_zero_le hv
  obtain ⟨k, rfl⟩ := Int.eq_ofNat_of_zero_le hc.1
  have e := Nat.two_pow_add_eq_or_of_lt (i := 5) (b := k) (by omega) m
  rw [show (m : Int) * 32 = ((2 ^ 5 * m : Nat) : Int) by omega, zor, ← e]
  congr 1
/-- five bits a letter -/
def wc (T : Int → Int) (b : Int) : Nat → Int
  | 0 => 0
  | k + 1 => 32 * wc T b k + (T (b + k) - 96)
def lc (t : List Nat) : Nat → Int
  | 0 => 0
  | k + 1 => 32 * lc t k + ((t.getD k 0 : Nat) - 96)
def okW (t : List Nat) : Prop := t.length ≤ 6 ∧ 0 < t.length ∧ ∀ j : Nat, j < t.length → 97 ≤ t.getD j 0 ∧ t.getD j 0 ≤ 122
abbrev wm (t : List Nat) (T : Int → Int) (b e : Int) : Prop := e - b = t.length ∧ ∀ j : Nat, j < t.length → T (b + j) = t.getD j 0
theorem wc_b {T : Int → Int} {b : Int} : ∀ k : Nat, k ≤ 6 → (∀ j : Nat, j < k → 97 ≤ T (b + j) ∧ T (b + j) ≤ 122) → 0 ≤ wc T b k ∧ wc T b k < 1073741824 ∧ (k < 6 → wc T b k < 33554432) ∧ (k < 5 → wc T b k < 1048576) ∧ (k < 4 → wc T b k < 32768) ∧ (k < 3 → wc T b k < 1024) ∧ (k < 2 → wc T b k < 32) ∧ (k < 1 → wc T b k < 1)
  | 0, _, _ => by unfold wc; omega
  | k + 1, hk, h => by
    have ih := wc_b (T := T) (b := b) k (by omega) (fun j hj => h j (by omega))
    have := h k (by omega)
    unfold wc
    omega
theorem wc_inj {T : Int → Int} {b : Int} {t : List Nat} : ∀ (k m : Nat), (∀ j : Nat, j < k → 97 ≤ T (b + j) ∧ T (b + j) ≤ 122) → (∀ j : Nat, j < m → 97 ≤ t.getD j 0 ∧ t.getD j 0 ≤ 122) → wc T b k = lc t m → k = m ∧ ∀ j : Nat, j < k → T (b + j) = t.getD j 0
  | 0, 0, _, _, _ => ⟨rfl, fun j hj => by omega⟩
  | 0, m + 1, _, h2, h => by
    exfalso
    have l0 : ∀ m : Nat, (∀ j : Nat, j < m → 97 ≤ t.getD j 0 ∧ t.getD j 0 ≤ 122) → 0 ≤ lc t m := by
      intro m
      induction m with
      | zero => intro _; exact Int.le_refl _
      | succ m ih => intro h; have := ih (fun j hj => h j (by omega)); have := h m (by omega); unfold lc; omega
    have := l0 m (fun j hj => h2 j (by omega))
    have := h2 m (by omega)
    unfold wc lc at h
    omega
  | k + 1, 0, h1, _, h => by
    exfalso
    have l0 : ∀ m : Nat, (∀ j : Nat, j < m → 97 ≤ T (b + j) ∧ T (b + j) ≤ 122) → 0 ≤ wc T b m := by
      intro m
      induction m with
      | zero => intro _; exact Int.le_refl _
      | succ m ih => intro h; have := ih (fun j hj => h j (by omega)); have := h m (by omega); unfold wc; omega
    have := l0 k (fun j hj => h1 j (by omega))
    have := h1 k (by omega)
    unfold wc lc at h
    omega
  | k + 1, m + 1, h1, h2, h => by
    have a := h1 k (by omega)
    have c := h2 m (by omega)
    unfold wc lc at h
    have e1 : wc T b k = lc t m := by omega
    obtain ⟨i1, i2⟩ := wc_inj k m (fun j hj => h1 j (by omega)) (fun j hj => h2 j (by omega)) e1
    subst i1
    refine ⟨rfl, fun j hj => ?_⟩
    by_cases e : j = k
    · subst e; omega
    · exact i2 j (by omega)
theorem lc_wc {T : Int → Int} {b : Int} {t : List Nat} : ∀ k : Nat, (∀ j : Nat, j < k → T (b + j) = t.getD j 0) → wc T b k = lc t k
  | 0, _ => rfl
  | k + 1, h => by
    unfold wc lc
    rw [lc_wc k (fun j hj => h j (by omega)), h k (by omega)]
section WD
variable {d : Nat} {I : Nat → Nat → Int} {A : Nat → Int → Int} {W : qWt} {T : Int → Int} {n a : Int}
theorem slen_s {i : UInt32} {t : List Nat} {k : Int32 → qR} (h : q_strs[i.toNat]? = some t) : q_slen (.float i) k = k (zI t.length) := by
  unfold q_slen
  simp only [h]
  rfl
theorem schr_s {i : UInt32} {t : List Nat} {k : Int32 → qR} {j : Int} (h : q_strs[i.toNat]? = some t) (h0 : 0 ≤ j) (h1 : j < t.length) (hl : t.length ≤ 100) : q_schr (.float i) (zI j) k = k (zI (t.getD j.toNat 0 : Nat)) := by
  unfold q_schr
  have e1 := zI_in h0 h1 (by omega)
  have e2 := zI_cl h0 (show j < 2147483648 by omega)
  have e3 : (zI j).toNatClampNeg = j.toNat := by omega
  simp only [h, e1, e3, if_true]
  rfl
theorem c_wordIs {i : UInt32} {t : List Nat} {b e : Int} (hd : 1 ≤ d) (hq : q_strs[i.toNat]? = some t) (ht : okW t) (h : cTx T n e I A) (h4 : I 3 4 = b) (hb : 0 ≤ b ∧ b ≤ e) : q_call q_MT d 110 [.ref 3, .float i] (zM I A W) = some (.inl (some (.int (zI (zb (wm t T b e))))), zM I A W) := by
  obtain ⟨d, rfl⟩ : ∃ e, d = e + 1 := ⟨d - 1, by omega⟩
  obtain ⟨h1, h2, h3, h3', h5, h6, h7⟩ := h
  obtain ⟨t1, t2, t3⟩ := ht
  rw [cl_X9_wordIs, k_X9_wordIs_0, slen_s hq]
  by_cases c : e - b = t.length
  · simp (implicitDefEqProofs := false) (disch := omega) only [↓rI_s, ↓rV_s, ↓rI_e, ↓rV_e, zc_eq, zc_ne, zc_lt, zc_ge, zc_gt, zc_le, zlt_t, zlt_f, zle_t, zle_f, zeq_t, zeq_f, lz, zadd, zsub, zmul, zneg, zb_e0, zb_e1, boo0, boo1, ua_s, ua_n, ua_ua, up_s, u2_s, u2_f, u2_c, u2_u2, Int.natCast_add, Int.zero_add, Int.add_zero, ↓reduceIte, ne_eq, not_true_eq_false, not_false_eq_true, Int.natCast_one, ↓zg_3_3, ↓zg_3_4, h3', h4]
    refine lp_x (fun j (_ : Unit) => q_run qm_X9_wordIs (q_call q_MT d) 22 [.ref 3, .float i, .int (zI t.length), .int (zI j)] [] (zM I A W)) (fun j _ => ∀ k : Nat, k < j → T (b + k) = t.getD k 0) (fun r => r = _) t.length ?_ ?_ 0 () (by omega) (fun k hk => by omega)
    · intro _ hk
      rw [k_X9_wordIs_22, zb_t ⟨c, hk⟩]
      simp (implicitDefEqProofs := false) (disch := omega) only [↓rI_s, ↓rV_s, ↓rI_e, ↓rV_e, zc_eq, zc_ne, zc_lt, zc_ge, zc_gt, zc_le, zlt_t, zlt_f, zle_t, zle_f, zeq_t, zeq_f, lz, zadd, zsub, zmul, zneg, zb_e0, zb_e1, boo0, boo1, ua_s, ua_n, ua_ua, up_s, u2_s, u2_f, u2_c, u2_u2, Int.natCast_add, Int.zero_add, Int.add_zero, ↓reduceIte, ne_eq, not_true_eq_false, not_false_eq_true, Int.natCast_one, Int.le_refl]
    · intro j _ hj hk
      have tj := t3 j hj
      have ej := h1 (b + j) (by omega) (by omega)
      have sf := sg_f (T (b + j))
      have tb := h2 (b + j)
      have es := fun k => schr_s (i := i) (t := t) (k := k) (j := j) hq (by omega) (by omega) (by omega)
      simp only [Int.toNat_natCast] at es
      rw [k_X9_wordIs_22]
      by_cases c2 : T (b + j) = t.getD j 0
      · refine .inr ⟨(), fun k hk2 => ?_, ?_⟩
        · by_cases e : k = j
          · subst e; exact c2
          · exact hk k (by omega)
        · simp (implicitDefEqProofs := false) (disch := omega) only [↓rI_s, ↓rV_s, ↓rI_e, ↓rV_e, zc_eq, zc_ne, zc_lt, zc_ge, zc_gt, zc_le, zlt_t, zlt_f, zle_t, zle_f, zeq_t, zeq_f, lz, zadd, zsub, zmul, zneg, zb_e0, zb_e1, boo0, boo1, ua_s, ua_n, ua_ua, up_s, u2_s, u2_f, u2_c, u2_u2, Int.natCast_add, Int.zero_add, Int.add_zero, ↓reduceIte, ne_eq, not_true_eq_false, not_false_eq_true, Int.natCast_one, ↓zg_3_0, ↓zg_3_4, h4, zl_4, ej, es]
      · refine .inl ?_
        rw [zb_f (fun q => c2 (q.2 j hj))]
        simp (implicitDefEqProofs := false) (disch := omega) only [↓rI_s, ↓rV_s, ↓rI_e, ↓rV_e, zc_eq, zc_ne, zc_lt, zc_ge, zc_gt, zc_le, zlt_t, zlt_f, zle_t, zle_f, zeq_t, zeq_f, lz, zadd, zsub, zmul, zneg, zb_e0, zb_e1, boo0, boo1, ua_s, ua_n, ua_ua, up_s, u2_s, u2_f, u2_c, u2_u2, Int.natCast_add, Int.zero_add, Int.add_zero, ↓reduceIte, ne_eq, not_true_eq_false, not_false_eq_true, Int.natCast_one, ↓zg_3_0, ↓zg_3_4, h4, zl_4, ej, es]
  · rw [zb_f (fun q => c q.1)]
    simp (implicitDefEqProofs := false) (disch := omega) only [↓rI_s, ↓rV_s, ↓rI_e, ↓rV_e, zc_eq, zc_ne, zc_lt, zc_ge, zc_gt, zc_le, zlt_t, zlt_f, zle_t, zle_f, zeq_t, zeq_f, lz, zadd, zsub, zmul, zneg, zb_e0, zb_e1, boo0, boo1, ua_s, ua_n, ua_ua, up_s, u2_s, u2_f, u2_c, u2_u2, Int.natCast_add, Int.zero_add, Int.add_zero, ↓reduceIte, ne_eq, not_true_eq_false, not_false_eq_true, Int.natCast_one, ↓zg_3_3, ↓zg_3_4, h3', h4]
theorem m_of {i : UInt32} {t : List Nat} {h : qH} (hd : 1 ≤ d) (hq : q_strs[i.toNat]? = some t) (ht : okW t) : q_call q_MT d 174 [.float i] h = some (.inl (some (.int (zI (lc t t.length)))), h) := by
  obtain ⟨d, rfl⟩ : ∃ e, d = e + 1 := ⟨d - 1, by omega⟩
  obtain ⟨t1, t2, t3⟩ := ht
  have lb : ∀ k : Nat, k ≤ t.length → 0 ≤ lc t k := by
    intro k
    induction k with
    | zero => intro _; exact Int.le_refl _
    | succ k ih => intro hk; have := ih (by omega); have := t3 k (by omega); unfold lc; omega
  rw [cl_X11_of, k_X11_of_0]
  simp only [lz]
  refine lp_x (fun j (_ : Unit) => q_run qm_X11_of (q_call q_MT d) 4 [.float i, .int (zI (lc t j)), .int (zI j)] [] h) (fun _ _ => True) (fun r => r = _) t.length ?_ ?_ 0 () (by omega) trivial
  · intro _ _
    rw [k_X11_of_4, slen_s hq]
    simp (implicitDefEqProofs := false) (disch := omega) only [↓rI_s, ↓rV_s, ↓rI_e, ↓rV_e, zc_eq, zc_ne, zc_lt, zc_ge, zc_gt, zc_le, zlt_t, zlt_f, zle_t, zle_f, zeq_t, zeq_f, lz, zadd, zsub, zmul, zneg, zb_e0, zb_e1, boo0, boo1, ua_s, ua_n, ua_ua, up_s, u2_s, u2_f, u2_c, u2_u2, Int.natCast_add, Int.zero_add, Int.add_zero, ↓reduceIte, ne_eq, not_true_eq_false, not_false_eq_true, Int.natCast_one, Int.le_refl]
  · intro j _ hj _
    refine .inr ⟨(), trivial, ?_⟩
    have tj := t3 j hj
    have es := fun k => schr_s (i := i) (t := t) (k := k) (j := j) hq (by omega) (by omega) (by omega)
    simp only [Int.toNat_natCast] at es
    rw [k_X11_of_4, slen_s hq]
    simp (implicitDefEqProofs := false) (disch := omega) only [↓rI_s, ↓rV_s, ↓rI_e, ↓rV_e, zc_eq, zc_ne, zc_lt, zc_ge, zc_gt, zc_le, zlt_t, zlt_f, zle_t, zle_f, zeq_t, zeq_f, lz, zadd, zsub, zmul, zneg, zb_e0, zb_e1, boo0, boo1, ua_s, ua_n, ua_ua, up_s, u2_s, u2_f, u2_c, u2_u2, Int.natCast_add, Int.zero_add, Int.add_zero, ↓reduceIte, ne_eq, not_true_eq_false, not_false_eq_true, Int.natCast_one, es, cat5 (lb j (by omega)) (show 0 ≤ ((t.getD j 0 : Nat) : Int) - 96 ∧ ((t.getD j 0 : Nat) : Int) - 96 < 32 by omega)]
    rfl
theorem m_isSmall {h : qH} {c : Int} (hd : 1 ≤ d) (hc : 0 ≤ c ∧ c ≤ 255) : q_call q_MT d 171 [.int (zI c)] h = some (.inl (some (.int (zI (zb (97 ≤ c ∧ c ≤ 122))))), h) := by
  obtain ⟨d, rfl⟩ : ∃ e, d = e + 1 := ⟨d - 1, by omega⟩
  rw [cl_X11_isSmall]
  by_cases q1 : c < 97
  · rw [zb_f (by omega)]
    simp (implicitDefEqProofs := false) (disch := omega) only [↓rI_s, ↓rV_s, ↓rI_e, ↓rV_e, zc_eq, zc_ne, zc_lt, zc_ge, zc_gt, zc_le, zlt_t, zlt_f, zle_t, zle_f, zeq_t, zeq_f, lz, zadd, zsub, zmul, zneg, zb_e0, zb_e1, boo0, boo1, ua_s, ua_n, ua_ua, up_s, u2_s, u2_f, u2_c, u2_u2, Int.natCast_add, Int.zero_add, Int.add_zero, ↓reduceIte, ne_eq, not_true_eq_false, not_false_eq_true, Int.natCast_one, ↓k_X11_isSmall_0, ↓k_X11_isSmall_16, ↓k_X11_isSmall_17]
  · by_cases q2 : 122 < c
    · rw [zb_f (by omega)]
      simp (implicitDefEqProofs := false) (disch := omega) only [↓rI_s, ↓rV_s, ↓rI_e, ↓rV_e, zc_eq, zc_ne, zc_lt, zc_ge, zc_gt, zc_le, zlt_t, zlt_f, zle_t, zle_f, zeq_t, zeq_f, lz, zadd, zsub, zmul, zneg, zb_e0, zb_e1, boo0, boo1, ua_s, ua_n, ua_ua, up_s, u2_s, u2_f, u2_c, u2_u2, Int.natCast_add, Int.zero_add, Int.add_zero, ↓reduceIte, ne_eq, not_true_eq_false, not_false_eq_true, Int.natCast_one, ↓k_X11_isSmall_0, ↓k_X11_isSmall_16, ↓k_X11_isSmall_17]
    · rw [zb_t (by omega)]
      simp (implicitDefEqProofs := false) (disch := omega) only [↓rI_s, ↓rV_s, ↓rI_e, ↓rV_e, zc_eq, zc_ne, zc_lt, zc_ge, zc_gt, zc_le, zlt_t, zlt_f, zle_t, zle_f, zeq_t, zeq_f, lz, zadd, zsub, zmul, zneg, zb_e0, zb_e1, boo0, boo1, ua_s, ua_n, ua_ua, up_s, u2_s, u2_f, u2_c, u2_u2, Int.natCast_add, Int.zero_add, Int.add_zero, ↓reduceIte, ne_eq, not_true_eq_false, not_false_eq_true, Int.natCast_one, ↓k_X11_isSmall_0, ↓k_X11_isSmall_16, ↓k_X11_isSmall_17]
theorem m_isDigit {h : qH} {c : Int} (hd : 1 ≤ d) (hc : 0 ≤ c ∧ c ≤ 255) : q_call q_MT d 172 [.int (zI c)] h = some (.inl (some (.int (zI (zb (48 ≤ c ∧ c ≤ 57))))), h) := by
  obtain ⟨d, rfl⟩ : ∃ e, d = e + 1 := ⟨d - 1, by omega⟩
  rw [cl_X11_isDigit]
  by_cases q1 : c < 48
  · rw [zb_f (by omega)]
    simp (implicitDefEqProofs := false) (disch := omega) only [↓rI_s, ↓rV_s, ↓rI_e, ↓rV_e, zc_eq, zc_ne, zc_lt, zc_ge, zc_gt, zc_le, zlt_t, zlt_f, zle_t, zle_f, zeq_t, zeq_f, lz, zadd, zsub, zmul, zneg, zb_e0, zb_e1, boo0, boo1, ua_s, ua_n, ua_ua, up_s, u2_s, u2_f, u2_c, u2_u2, Int.natCast_add, Int.zero_add, Int.add_zero, ↓reduceIte, ne_eq, not_true_eq_false, not_false_eq_true, Int.natCast_one, ↓k_X11_isDigit_0, ↓k_X11_isDigit_16, ↓k_X11_isDigit_17]
  · by_cases q2 : 57 < c
    · rw [zb_f (by omega)]
      simp (implicitDefEqProofs := false) (disch := omega) only [↓rI_s, ↓rV_s, ↓rI_e, ↓rV_e, zc_eq, zc_ne, zc_lt, zc_ge, zc_gt, zc_le, zlt_t, zlt_f, zle_t, zle_f, zeq_t, zeq_f, lz, zadd, zsub, zmul, zneg, zb_e0, zb_e1, boo0, boo1, ua_s, ua_n, ua_ua, up_s, u2_s, u2_f, u2_c, u2_u2, Int.natCast_add, Int.zero_add, Int.add_zero, ↓reduceIte, ne_eq, not_true_eq_false, not_false_eq_true, Int.natCast_one, ↓k_X11_isDigit_0, ↓k_X11_isDigit_16, ↓k_X11_isDigit_17]
    · rw [zb_t (by omega)]
      simp (implicitDefEqProofs := false) (disch := omega) only [↓rI_s, ↓rV_s, ↓rI_e, ↓rV_e, zc_eq, zc_ne, zc_lt, zc_ge, zc_gt, zc_le, zlt_t, zlt_f, zle_t, zle_f, zeq_t, zeq_f, lz, zadd, zsub, zmul, zneg, zb_e0, zb_e1, boo0, boo1, ua_s, ua_n, ua_ua, up_s, u2_s, u2_f, u2_c, u2_u2, Int.natCast_add, Int.zero_add, Int.add_zero, ↓reduceIte, ne_eq, not_true_eq_false, not_false_eq_true, Int.natCast_one, ↓k_X11_isDigit_0, ↓k_X11_isDigit_16, ↓k_X11_isDigit_17]
/-- the word's code, 0 of one longer than six -/
def wcd (T : Int → Int) (b e : Int) : Int := if 6 < e - b then 0 else wc T b (e - b).toNat
theorem m_word (hd : 2 ≤ d) (h : mTx T n a I A) : q_call q_MT d 173 [.ref 59] (zM I A W) = some (.inl (some (.int (zI (wcd T (sk T n a) (gE (qL' T) n (sk T n a)))))), zM (u2 I 59 4 (sk T n a)) A W) := by
  obtain ⟨d, rfl⟩ : ∃ e, d = e + 1 := ⟨d - 1, by omega⟩
  have e := m_here (W := W) (show 1 ≤ d by omega) h
  have gb := sk_b (T := T) h.2.2.2.2.2.1
  obtain ⟨h1, h2, h3, h4, h5, h6, h7⟩ := h
  generalize hbe : sk T n a = b at *
  have dg := gE_b (q := qL' T) (n := n) (a := b) (by omega)
  have lt : ∀ j : Nat, (b : Int) + j < gE (qL' T) n b → 97 ≤ T (b + j) ∧ T (b + j) ≤ 122 := fun j hj => of_decide_eq_true (dg.2.2.2 (b + j) (by omega) hj)
  have e3 : u2 I 59 4 b 59 3 = n := by rw [u2_f (by decide)]; exact h3
  have loop : ∀ (f k : Nat) (v : Int), (gE (qL' T) n b - (b + k)).toNat = f → b + (k : Int) ≤ gE (qL' T) n b → (k ≤ 6 → v = wc T b k) → (6 < k → v = 0) → q_run qm_X11_word (q_call q_MT d) 14 [.ref 59, .int (zI v), .int (zI k), .int (zI (b + k))] [] (zM (u2 I 59 4 b) A W) = some (.inl (some (.int (zI (wcd T b (gE (qL' T) n b))))), zM (u2 I 59 4 b) A W) := by
    intro f
    induction f with
    | zero =>
      intro k v hf hk v1 v2
      have ek : b + (k : Int) = gE (qL' T) n b := by omega
      have fin : q_run qm_X11_word (q_call q_MT d) 67 [.ref 59, .int (zI v), .int (zI k), .int (zI (b + k))] [] (zM (u2 I 59 4 b) A W) = some (.inl (some (.int (zI (wcd T b (gE (qL' T) n b))))), zM (u2 I 59 4 b) A W) := by
        rw [k_X11_word_67]
        unfold wcd
        by_cases c : 6 < k
        · rw [if_pos (show 6 < gE (qL' T) n b - b by omega)]
          simp (implicitDefEqProofs := false) (disch := omega) only [↓rI_s, ↓rV_s, ↓rI_e, ↓rV_e, zc_eq, zc_ne, zc_lt, zc_ge, zc_gt, zc_le, zlt_t, zlt_f, zle_t, zle_f, zeq_t, zeq_f, lz, zadd, zsub, zmul, zneg, zb_e0, zb_e1, boo0, boo1, ua_s, ua_n, ua_ua, up_s, u2_s, u2_f, u2_c, u2_u2, Int.natCast_add, Int.zero_add, Int.add_zero, ↓reduceIte, ne_eq, not_true_eq_false, not_false_eq_true, Int.natCast_one, ↓k_X11_word_78]
        · rw [if_neg (show ¬ 6 < gE (qL' T) n b - b by omega), show (gE (qL' T) n b - b).toNat = k by omega, ← v1 (by omega)]
          simp (implicitDefEqProofs := false) (disch := omega) only [↓rI_s, ↓rV_s, ↓rI_e, ↓rV_e, zc_eq, zc_ne, zc_lt, zc_ge, zc_gt, zc_le, zlt_t, zlt_f, zle_t, zle_f, zeq_t, zeq_f, lz, zadd, zsub, zmul, zneg, zb_e0, zb_e1, boo0, boo1, ua_s, ua_n, ua_ua, up_s, u2_s, u2_f, u2_c, u2_u2, Int.natCast_add, Int.zero_add, Int.add_zero, ↓reduceIte, ne_eq, not_true_eq_false, not_false_eq_true, Int.natCast_one, ↓k_X11_word_78]
      rw [k_X11_word_14]
      by_cases c : b + (k : Int) < n
      · have nd : ¬ (97 ≤ T (b + k) ∧ T (b + k) ≤ 122) := fun q => dg.2.2.1 ⟨by omega, by rw [← ek]; exact decide_eq_true q⟩
        have ej := h1 (b + k) (by omega) c
        have es := m_isSmall (d := d) (h := zM (u2 I 59 4 b) A W) (c := T (b + k)) (by omega) (h2 _)
        rw [zb_f nd] at es
        simp (implicitDefEqProofs := false) (disch := omega) only [↓rI_s, ↓rV_s, ↓rI_e, ↓rV_e, zc_eq, zc_ne, zc_lt, zc_ge, zc_gt, zc_le, zlt_t, zlt_f, zle_t, zle_f, zeq_t, zeq_f, lz, zadd, zsub, zmul, zneg, zb_e0, zb_e1, boo0, boo1, ua_s, ua_n, ua_ua, up_s, u2_s, u2_f, u2_c, u2_u2, Int.natCast_add, Int.zero_add, Int.add_zero, ↓reduceIte, ne_eq, not_true_eq_false, not_false_eq_true, Int.natCast_one, ↓zg_59_3, e3, ↓zg_59_9, zl_61, ej, es, h3]
        exact fin
      · simp (implicitDefEqProofs := false) (disch := omega) only [↓rI_s, ↓rV_s, ↓rI_e, ↓rV_e, zc_eq, zc_ne, zc_lt, zc_ge, zc_gt, zc_le, zlt_t, zlt_f, zle_t, zle_f, zeq_t, zeq_f, lz, zadd, zsub, zmul, zneg, zb_e0, zb_e1, boo0, boo1, ua_s, ua_n, ua_ua, up_s, u2_s, u2_f, u2_c, u2_u2, Int.natCast_add, Int.zero_add, Int.add_zero, ↓reduceIte, ne_eq, not_true_eq_false, not_false_eq_true, Int.natCast_one, ↓zg_59_3, e3, h3]
        exact fin
    | succ f ih =>
      intro k v hf hk v1 v2
      have hl := lt k (by omega)
      have ej := h1 (b + k) (by omega) (by omega)
      have es := m_isSmall (d := d) (h := zM (u2 I 59 4 b) A W) (c := T (b + k)) (by omega) (h2 _)
      rw [zb_t hl] at es
      rw [k_X11_word_14]
      by_cases c : 6 ≤ k
      · have x := ih (k + 1) 0 (by omega) (by omega) (fun q => by omega) (fun _ => rfl)
        rw [show b + ((k + 1 : Nat) : Int) = b + k + 1 by omega] at x
        simp (implicitDefEqProofs := false) (disch := omega) only [↓rI_s, ↓rV_s, ↓rI_e, ↓rV_e, zc_eq, zc_ne, zc_lt, zc_ge, zc_gt, zc_le, zlt_t, zlt_f, zle_t, zle_f, zeq_t, zeq_f, lz, zadd, zsub, zmul, zneg, zb_e0, zb_e1, boo0, boo1, ua_s, ua_n, ua_ua, up_s, u2_s, u2_f, u2_c, u2_u2, Int.natCast_add, Int.zero_add, Int.add_zero, ↓reduceIte, ne_eq, not_true_eq_false, not_false_eq_true, Int.natCast_one, ↓zg_59_3, e3, h3, ↓zg_59_9, zl_61, ej, es, ↓k_X11_word_57]
        exact x
      · have vb := wc_b (T := T) (b := b) k (by omega) (fun j hj => lt j (by omega))
        have ev := v1 (by omega)
        have x := ih (k + 1) (32 * v + (T (b + k) - 96)) (by omega) (by omega) (fun q => by rw [ev]; rfl) (fun q => by omega)
        rw [show b + ((k + 1 : Nat) : Int) = b + k + 1 by omega] at x
        simp (implicitDefEqProofs := false) (disch := omega) only [↓rI_s, ↓rV_s, ↓rI_e, ↓rV_e, zc_eq, zc_ne, zc_lt, zc_ge, zc_gt, zc_le, zlt_t, zlt_f, zle_t, zle_f, zeq_t, zeq_f, lz, zadd, zsub, zmul, zneg, zb_e0, zb_e1, boo0, boo1, ua_s, ua_n, ua_ua, up_s, u2_s, u2_f, u2_c, u2_u2, Int.natCast_add, Int.zero_add, Int.add_zero, ↓reduceIte, ne_eq, not_true_eq_false, not_false_eq_true, Int.natCast_one, ↓zg_59_3, e3, h3, ↓zg_59_9, zl_61, ej, es, ↓k_X11_word_57, cat5 (show 0 ≤ v by omega) (show 0 ≤ T (b + k) - 96 ∧ T (b + k) - 96 < 32 by omega)]
        exact x
  have x := loop _ 0 0 rfl (by omega) (fun _ => rfl) (fun q => by omega)
  rw [show b + ((0 : Nat) : Int) = b by omega] at x
  rw [cl_X11_word]
  simp (implicitDefEqProofs := false) (disch := omega) only [↓rI_s, ↓rV_s, ↓rI_e, ↓rV_e, zc_eq, zc_ne, zc_lt, zc_ge, zc_gt, zc_le, zlt_t, zlt_f, zle_t, zle_f, zeq_t, zeq_f, lz, zadd, zsub, zmul, zneg, zb_e0, zb_e1, boo0, boo1, ua_s, ua_n, ua_ua, up_s, u2_s, u2_f, u2_c, u2_u2, Int.natCast_add, Int.zero_add, Int.add_zero, ↓reduceIte, ne_eq, not_true_eq_false, not_false_eq_true, Int.natCast_one, ↓k_X11_word_0, ↓mc_59, e, ↓zg_59_4]
  exact x
/-- the codes tell the words apart -/
theorem wcd_w {t : List Nat} {b : Int} (ht : okW t) (hb : b ≤ n) : (wcd T b (gE (qL' T) n b) = lc t t.length) ↔ wm t T b (gE (qL' T) n b) := by
  have dg := gE_b (q := qL' T) (n := n) (a := b) hb
  have lt : ∀ j : Nat, (b : Int) + j < gE (qL' T) n b → 97 ≤ T (b + j) ∧ T (b + j) ≤ 122 := fun j hj => of_decide_eq_true (dg.2.2.2 (b + j) (by omega) hj)
  obtain ⟨t1, t2, t3⟩ := ht
  unfold wcd
  constructor
  · intro h
    split at h
    · exfalso
      have := wc_inj (T := fun _ => 97) (b := 0) (t := t) 0 t.length (fun j hj => by omega) t3 h
      omega
    · obtain ⟨i1, i2⟩ := wc_inj _ _ (fun j hj => lt j (by omega)) t3 h
      exact ⟨by omega, fun j hj => i2 j (by omega)⟩
  · intro h
    rw [if_neg (by omega), show (gE (qL' T) n b - b).toNat = t.length by omega]
    exact lc_wc _ h.2
end WD
