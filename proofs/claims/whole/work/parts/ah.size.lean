/-! How large the law's heap is at its end; the law's whole run. -/
set_option maxRecDepth 20000 in
theorem zM_sz (I : Nat → Nat → Int) (A : Nat → Int → Int) (W : qWt) : q_sz (zM I A W) = W.2.2.2.1 + 7000 + zz (dyn W) := by
  unfold zM
  unfold q_sz
  rw [List.map_append, List.sum_append]
  show _ + zz (dyn W) = _
  refine congrArg (fun y => y + zz (dyn W)) ?_
  simp only [List.map_cons, List.map_nil, List.sum_cons, List.sum_nil, q_se, List.length_cons, List.length_nil, Nat.reduceLeDiff, Nat.reduceAdd, ↓reduceIte]
  all_goals omega
theorem law_run {n : Nat} {f : Nat → Int32} (hn : n ≤ 5120) : ∃ h' : qH, h'.length - 2 ≤ 601024 ∧ q_sz h' - q_sz [.inl (0, n, .inl f), .inl (0, 9, .inl q_plain)] ≤ 7293033 ∧ q_run qm_L_law_ (q_call q_MT 143) 0 [.ref 0, q_junk, q_junk, q_junk, q_junk, q_junk, q_junk] [] [.inl (0, n, .inl f), .inl (0, 9, .inl q_plain)] = some (.inl (some (.int (zI 1))), h') := by
  obtain ⟨I2, A2, W2, c2, hc, hI, e⟩ := law_loop (d := 142) (n := n) (f := f) (by decide) hn (n + 1) 0 I0 A0 (W0 n f) q_junk q_junk (Iv_0 n f) (by omega) (by omega)
  have l1 := hI.2.2.2.1
  have l2 := hI.2.2.2.2
  have l3 := hI.2.1
  refine ⟨zM I2 A2 W2, ?_, ?_, (law_begin 140 n f).trans e⟩
  · rw [zM_l]
    omega
  · rw [zM_sz, l3]
    omega
