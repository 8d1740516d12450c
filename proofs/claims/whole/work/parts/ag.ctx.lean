/-! What holds at the law's entry, out of the statement's own words: classes, arrays' classes, texts, PLAIN, the script. -/
def q_can : List (String × Nat) := [("WinkBank$Room", 83), ("WinkBank$Room", 97), ("WinkBank$Room", 102), ("WinkBank$Room", 107), ("WinkBank$Room", 111), ("WinkBank$Law", 91), ("WinkBank$Law", 100), ("WinkBank$Law", 106), ("WinkBank$Law", 108), ("WinkBank$Law", 112), ("WinkBank$Law", 114), ("WinkBank$Law", 116), ("WinkBank$Law", 118), ("WinkBank$Law", 120), ("WinkBank$Law", 122), ("WinkBank$Steps", 49), ("WinkBank$Steps", 58), ("WinkBank$Steps", 73), ("WinkBank$Steps", 77)]
def q_tm (i : Nat) : Term := .string (q_can.getD i ("", 0)).1 (q_can.getD i ("", 0)).2
def q_fl : List Cond := flatC (Jvm.Cond.and given_1 narrow_1)
theorem qk_ex : ∀ i, i < 19 → Cond.exactly (q_tm i) "java/lang/String" ∈ q_fl := by decide +kernel
theorem qk_co : ∀ i, i < 19 → Cond.eq (.field (q_tm i) "java/lang/String" "coder" "B") (.int 0) ∈ q_fl := by decide +kernel
theorem qk_ar : ∀ i, i < 19 → Cond.arrayOf (.field (q_tm i) "java/lang/String" "value" "[B") .byte ∈ q_fl := by decide +kernel
theorem qk_le : ∀ i, i < 19 → Cond.eq (.length (.field (q_tm i) "java/lang/String" "value" "[B")) (.int (Int32.ofNat (q_sln.getD i 0))) ∈ q_fl := by decide +kernel
theorem qk_el : ∀ i, i < 19 → ∀ j, j < q_sln.getD i 0 → Cond.eq (.elem (.field (q_tm i) "java/lang/String" "value" "[B") (.int (Int32.ofNat j))) (.int ((q_sby.getD i []).getD j 0)) ∈ q_fl := by decide +kernel
theorem qk_ln : ∀ i, i < 19 → q_sln.getD i 0 < 2 ^ 31 := by decide +kernel
theorem qk_sr : ∀ q ∈ q_sref, Cond.stringRef q.1 q.2.1 q.2.2.1 ∈ lw_tbl ∧ q.2.2.2 < 19 ∧ (q_tm q.2.2.2 = .string q.1 q.2.1 ∨ Cond.eq (q_tm q.2.2.2) (.string q.1 q.2.1) ∈ q_fl) := by decide +kernel
theorem qk_pl : ∀ j, j < 9 → Cond.eq (.elem (.static "WinkBank$Law" "PLAIN" "[I") (.int (Int32.ofNat j))) (.int (q_plain j)) ∈ q_fl := by decide +kernel
theorem qk_pa : Cond.arrayOf (.static "WinkBank$Law" "PLAIN" "[I") .int ∈ q_fl ∧ Cond.eq (.length (.static "WinkBank$Law" "PLAIN" "[I")) (.int (Int32.ofNat 9)) ∈ q_fl := by decide +kernel
theorem qk_zs : Cond.isRef (.static Bundle.tN "UNASSIGNED_STACK" Bundle.steD) ∈ q_fl ∧ Cond.isRef (.static Bundle.tN "SUPPRESSED_SENTINEL" Bundle.listD) ∈ q_fl ∧ Cond.eq (.static "java/lang/String" "COMPACT_STRINGS" "Z") (.int 1) ∈ q_fl ∧ Cond.isRef (.static "jdk/internal/util/Preconditions" "SIOOBE_FORMATTER" "Ljava/util/function/BiFunction;") ∈ q_fl := by decide +kernel
theorem qk_nc : Cond.not (.castable "java/lang/IllegalArgumentException" "java/util/NoSuchElementException") ∈ q_fl ∧ Cond.not (.castable "java/util/NoSuchElementException" "java/lang/IllegalArgumentException") ∈ q_fl := by decide +kernel
theorem qk_ls : Cond.laysStatic "WinkBank$Law" "PLAIN" "[I" ∈ lw_tbl ∧ Cond.initialized "WinkBank$Law" ∈ lw_tbl ∧ Cond.laysStatic Bundle.tN "UNASSIGNED_STACK" Bundle.steD ∈ lw_tbl ∧ Cond.laysStatic Bundle.tN "SUPPRESSED_SENTINEL" Bundle.listD ∈ lw_tbl ∧ Cond.initialized Bundle.tN ∈ lw_tbl ∧ Cond.laysStatic "java/lang/String" "COMPACT_STRINGS" "Z" ∈ lw_tbl ∧ Cond.initialized "java/lang/String" ∈ lw_tbl ∧ Cond.laysStatic "jdk/internal/util/Preconditions" "SIOOBE_FORMATTER" "Ljava/util/function/BiFunction;" ∈ lw_tbl ∧ Cond.initialized "jdk/internal/util/Preconditions" ∈ lw_tbl ∧ Cond.arrayOver (.object "WinkBank$Kept") ∈ lw_tbl := by decide +kernel
theorem qk_ie : Cond.instantiable "java/util/NoSuchElementException" 6 ∈ lw_tbl ∧ Cond.instantiable "java/lang/IllegalArgumentException" 6 ∈ lw_tbl := by decide +kernel
section CTX
variable {args : Array Value} {s : State}
theorem xt_eqR {t u : Term} {a : Nat} (h : (Cond.eq t u).before args s = true) (ht : t.eval args s none [] s = some (.ref a)) : u.eval args s none [] s = some (.ref a) := by
  cases hv : u.eval args s none [] s with
  | none => simp [Cond.before, Cond.holds, Cond.value, ht, hv] at h
  | some w =>
    simp only [Cond.before, Cond.holds, Cond.value, ht, hv] at h
    cases w <;> simp_all
theorem xt_str {tm : Term} {n : Nat} {by0 : List Int32} {A : Nat → Prop} (hn : n < 2 ^ 31) (hex : (Cond.exactly tm "java/lang/String").before args s = true) (hco : (Cond.eq (.field tm "java/lang/String" "coder" "B") (.int 0)).before args s = true) (har : (Cond.arrayOf (.field tm "java/lang/String" "value" "[B") .byte).before args s = true) (hle : (Cond.eq (.length (.field tm "java/lang/String" "value" "[B")) (.int (Int32.ofNat n))).before args s = true)
    (hel : ∀ j : Nat, j < n → (Cond.eq (.elem (.field tm "java/lang/String" "value" "[B") (.int (Int32.ofNat j))) (.int (by0.getD j 0))).before args s = true) (hA : ∀ a : Nat, a < s.heap.size → ¬ A a) : ∃ a t : Nat, tm.eval args s none [] s = some (.ref a) ∧ va_O "java/lang/String" a A s s.heap ∧ va_OF "java/lang/String" "coder" "B" (.int 0) a A s s.heap ∧ va_OF "java/lang/String" "value" "[B" (.ref t) a A s s.heap ∧ va_T .byte t n (fun j => .int (by0.getD j 0)) A s s.heap := by
  obtain ⟨a, c, cA, kA, q1, q2, q3, q4, q5, q6, -⟩ := Cond.exactly_spec (args := args) (first := s) (o := none) (s := s) (idx := []) (t := tm) (cls := "java/lang/String") hex
  obtain ⟨t, ht, hT⟩ := va_Tof (f := fun j => .int (by0.getD j 0)) (A := A) hn har (va_eqt hle) (fun j hj => va_eqt (hel j hj)) hA
  exact ⟨a, t, q1, ⟨cA, q3, q5, by rw [q6]; exact q2, hA a (Array.getElem?_eq_some_iff.mp q3).1⟩, vk_OFof q1 (va_eqt hco) hA, vk_OFof q1 ht hA, hT⟩
theorem xt_arr {ty : FieldType} (h : (Cond.arrayClass ty).before args s = true) : ∃ c : ClassId, ArrOfT s c ty ∧ s.vm.findClass ("[" ++ ty.toString) = some c := by
  obtain ⟨c, k, comp, f1, f2, f3⟩ := Cond.arrayClass_spec (args := args) (first := s) (o := none) (s := s) (idx := []) h
  exact ⟨c, fun N z => ⟨(fun k h => by cases h), k, f2, comp, f3⟩, f1⟩
theorem xt_nw (hts : ∀ w ∈ lw_tbl, w.before args s = true) : ∀ w ∈ q_Nw, va_Nw w s := by
  intro w hw
  have h1 := hts w (List.mem_filter.mp hw).1
  have h2 : q_isN w = true := (List.mem_filter.mp hw).2
  refine va_Nw.of ?_ h1
  cases w <;> first | rfl | (simp [Cond.onTables, Cond.keeps, Cond.steady]; done) | (exact absurd h2 (by intro q; cases q))
theorem xg_of {b L : Nat} {xs : Nat → Int32} (hts : ∀ w ∈ lw_tbl, w.before args s = true) (hgv : (Jvm.Cond.and given_1 narrow_1).before args s = true) (hX : va_X b L xs s s.heap) (hbl : b < s.heap.size) : ∃ (pa : Nat) (ad : Nat → Nat) (cA dC : Nat → ClassId) (dI : Nat → Nat → Nat), x_G (s.heap.size, b, pa, ad, cA, dC, dI, L, xs) s s.heap := by
  have hfl : ∀ w ∈ q_fl, w.before args s = true := flat_of_before _ hgv
  have hWs : ∀ w ∈ q_Ws, w.before args s = true := fun w hw => hts w (List.mem_filter.mp hw).1
  have hA : ∀ a : Nat, a < s.heap.size → ¬ (fun q : Nat => s.heap.size ≤ q) a := fun a h => Nat.not_le.mpr h
  have hc : ∀ ci : Nat, ∃ q : ClassId × (Nat → Nat), ∀ r : vw_C, q_cl[ci]? = some r → u_Kn s r.1 r.2.1 r.2.2 q.1 q.2 := by
    intro ci
    cases hr : q_cl[ci]? with
    | none => exact ⟨(0, fun _ => 0), fun r h => by cases h⟩
    | some r0 =>
      have hi : ci < 14 := (List.getElem?_eq_some_iff.mp hr).1
      by_cases hj : ci < 12
      · obtain ⟨h1, h2, -⟩ := q_cAll hr hj
        obtain ⟨cC, iS, hk⟩ := u_known hWs h1 (hWs _ h2.1)
        exact ⟨(cC, iS), fun r h => by cases h; exact hk⟩
      · have h12 : ci = 12 ∨ ci = 13 := by omega
        rcases h12 with rfl | rfl
        · cases hr
          obtain ⟨cC, iS, hk⟩ := u_known (C := "java/util/NoSuchElementException") (T := q_T0) (N := 0) hts (fun w hw => by cases hw) (hts _ qk_ie.1)
          exact ⟨(cC, iS), fun r h => by cases h; exact hk⟩
        · cases hr
          obtain ⟨cC, iS, hk⟩ := u_known (C := "java/lang/IllegalArgumentException") (T := q_T0) (N := 0) hts (fun w hw => by cases hw) (hts _ qk_ie.2)
          exact ⟨(cC, iS), fun r h => by cases h; exact hk⟩
  obtain ⟨D, hD⟩ := Classical.axiomOfChoice hc
  obtain ⟨c0, e0, f0⟩ := xt_arr (hWs _ q_arrw.1)
  obtain ⟨c1, e1, f1⟩ := xt_arr (hWs _ q_arrw.2.1)
  obtain ⟨c2, e2, f2⟩ := xt_arr (hWs _ q_arrw.2.2.1)
  obtain ⟨c3, e3, f3⟩ := xt_arr (hWs _ q_arrw.2.2.2)
  obtain ⟨l1, l2, l3, l4, l5, l6, l7, l8, l9, l10⟩ := qk_ls
  obtain ⟨comp, c4, k4, g1, -, g2, g3, g4⟩ := Cond.arrayOver_spec (args := args) (first := s) (o := none) (s := s) (idx := []) (hts _ l10)
  have hs : ∀ i : Nat, ∃ q : Nat × Nat, i < 19 → (q_tm i).eval args s none [] s = some (.ref q.1) ∧ va_O "java/lang/String" q.1 (fun q : Nat => s.heap.size ≤ q) s s.heap ∧ va_OF "java/lang/String" "coder" "B" (.int 0) q.1 (fun q : Nat => s.heap.size ≤ q) s s.heap ∧ va_OF "java/lang/String" "value" "[B" (.ref q.2) q.1 (fun q : Nat => s.heap.size ≤ q) s s.heap ∧ va_T .byte q.2 (q_sln.getD i 0) (fun j => .int ((q_sby.getD i []).getD j 0)) (fun q : Nat => s.heap.size ≤ q) s s.heap := by
    intro i
    by_cases hi : i < 19
    · obtain ⟨a, t, h⟩ := xt_str (A := fun q : Nat => s.heap.size ≤ q) (qk_ln i hi) (hfl _ (qk_ex i hi)) (hfl _ (qk_co i hi)) (hfl _ (qk_ar i hi)) (hfl _ (qk_le i hi)) (fun j hj => hfl _ (qk_el i hi j hj)) hA
      exact ⟨(a, t), fun _ => h⟩
    · exact ⟨(0, 0), fun h => absurd h hi⟩
  obtain ⟨S, hS⟩ := Classical.axiomOfChoice hs
  obtain ⟨pa, p1, p2⟩ := va_Tof (tm := .static "WinkBank$Law" "PLAIN" "[I") (ty := .int) (N := 9) (f := fun j => .int (q_plain j)) (A := fun q : Nat => s.heap.size ≤ q) (by decide) (hfl _ qk_pa.1) (va_eqt (hfl _ qk_pa.2)) (fun j hj => va_eqt (hfl _ (qk_pl j hj))) hA
  refine ⟨pa, fun i => (S i).1, fun t => [c0, c1, c2, c3, c4].getD t c0, fun c => (D c).1, fun c => (D c).2, ⟨fun c q hq => hD c q hq, ?_⟩, xt_nw hts, ?_, p2, hbl, ?_, va_Zref (hts _ l1) (hts _ l2) p1 hA, vx_Zqof (hts _ l3) (hts _ l5) (hfl _ qk_zs.1) hA, vx_Zqof (hts _ l4) (hts _ l5) (hfl _ qk_zs.2.1) hA, ⟨va_Nc.of (hfl _ qk_nc.1), va_Nc.of (hfl _ qk_nc.2)⟩, ?_, va_AO.of (hts _ l10), va_Zof (hts _ l6) (hts _ l7) (va_eqi (hfl _ qk_zs.2.2.1)) hA, va_Zqof (hts _ l8) (hts _ l9) (hfl _ qk_zs.2.2.2) hA, fun i => (S i).2, fun i hi => (hS i hi).2⟩
  · intro k q hq
    match k, hq with
    | 0, hq => cases hq; exact ⟨e0, f0⟩
    | 1, hq => cases hq; exact ⟨e1, f1⟩
    | 2, hq => cases hq; exact ⟨e2, f2⟩
    | 3, hq => cases hq; exact ⟨e3, f3⟩
    | 4, hq => cases hq; exact ⟨fun N z => ⟨(fun k h => by cases h), k4, g2, comp, g3⟩, k4, comp, g2, g3, g1, g4⟩
    | k + 5, hq => cases hq
  · obtain ⟨scr, x1, x2, x3, x4, x5⟩ := hX
    exact ⟨scr, x1, x2, x3, Nat.le_of_eq x4.symm, by rw [x4], x5, hA b hbl⟩
  · obtain ⟨cell, y1, -⟩ := p2
    exact (Array.getElem?_eq_some_iff.mp y1).1
  · intro q hq
    obtain ⟨h1, h2, h3⟩ := qk_sr q hq
    refine vk_R.of (A := args) (hts _ h1) ?_
    have e := (hS q.2.2.2 h2).1
    rcases h3 with h3 | h3
    · rw [← h3]
      exact e
    · exact xt_eqR (hfl _ h3) e
end CTX
