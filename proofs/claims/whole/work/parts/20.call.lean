/-! Calls: a method's contract, and what comes behind it. -/
def x_rm (d : Nat) (h h' : qH) : Room := { frames := 2 * d + 20, cells := h'.length - h.length, slots := q_sz h' - q_sz h, locals := 64 * d + 400 }
def x_Pc (X : qX) (as : List Value) (h : qH) : Array Value → State → Prop := va_Pc (as.map (x_cv X)) (fun U => x_G X U U.heap ∧ x_W X h U.heap)
theorem x_bl {X : qX} {as : List Value} {h : qH} : FrameBlind (x_Pc X as h) := by
  intro a U g mk hP
  obtain ⟨h1, h2, h3⟩ := hP
  have hz : X.1 ≤ U.heap.size := by rw [h3.2.1]; omega
  exact ⟨h1, x_G.moved (U := U.calling g mk a) h2 (State.WarmedH.refl U) hz (fun q _ => rfl), h3⟩
section SOUND6
variable {X : qX} {l : Launch} {M : qM} {y : MethodName} {bytes : ByteArray} {ret : Option FieldType} {p : Program} {e : Env} {R : Room} {s : State} {m : MethodId} {args : Array Value} {below : List Frame} {meth : Method} {c : Code} {d : Nat} {h0 h' : qH} {o : qO}
variable {pc : Nat} {L st : List Value} {h : qH} {k : qK} {H : Heap} {locs : List Loc} {ls : Array Slot} {rest : List Value}
theorem x_pre {as : List Value} (E : x_E X l M y bytes ret p R s m args meth c d h0 h') (hI : x_I X M.2.2.2.1 s h0 h H locs ls L) : ∀ U : State, U.heap = H → s.WarmedH U.vm → x_Pc X as h (as.map (x_cv X)).toArray U := by
  obtain ⟨hx, hb, hml, hown, hts, hlocks, hr, hG, hR, hC, htr, hsz, hrow, hln, hnm, hlo, hhd, hth⟩ := E
  obtain ⟨hW, hS, hL, hq⟩ := hI
  intro U hU hw
  refine ⟨rfl, x_G.moved hG hw hsz (fun q hq => ?_), by rw [hU]; exact hW⟩
  rw [hU]
  exact hS.2.1 q (Nat.lt_of_lt_of_le hq hsz) (Nat.not_le.mpr hq)
/-- the locals behind a caught throw -/
theorem so_thr {E0 q0 : Nat} {q9 : Addr} {ce : Cell} {H1 : Heap} {locs1 : List Loc} {h1 : qH} (E : x_E X l M y bytes ret p R s m args meth c d h0 h') (hI : x_I X M.2.2.2.1 s h0 h1 H1 locs1 ls L) (hg : q_le h1 h') (hce : H1[q9]? = some ce) (hcv : ce.vm = .none) (hcl : s.vm.findClass (q_exn E0) = some ce.cls)
    (hk : ∀ pc L st h, k pc L st h = some (o, h') → x_Go X l M p e R s m args below meth c h0 h' o pc L st h) (q : q_thr M pc E0 q0 L h1 (fun at1 L1 => k at1 L1 [] h1) = some (o, h')) :
    vx_W p l e R s m args below meth c H1 locs1 (h1.length - h0.length) (q_sz h1 - q_sz h0) (x_Qf X o h0 h' below args s) (F0 m pc ls rest) q9 := by
  obtain ⟨hx, hb, hml, hown, hts, hlocks, hr, hG, hR, hC, htr, hsz, hrow, hln, hnm, hlo, hhd, hth⟩ := E
  obtain ⟨hW, hS, hL, hq⟩ := hI
  have hE := (iv_thr q).1
  rcases (iv_thr q).2 with ⟨h1e, h2e⟩ | ⟨t, n, len, i, hne, hf, hlk, hst, hn⟩
  · cases h2e
    rcases hhd with ⟨-, hex⟩ | ⟨hh, hex, hok⟩
    · refine vx_out (fun x hx => absurd (hex x hx) (fun f => f)) hlocks hce hcv hcl (fun t ht _ => ⟨⟨E0, q0, rfl, rfl, by rw [ht]; exact hW⟩, hS.F ht⟩) (fun z hz => hS.2.2 z hz) (by have := hg.1; omega) (by have := hg.2; omega)
    · rw [h1e] at hok
      have hhn : hh = [] := by
        cases hh with
        | nil => rfl
        | cons a b => exact absurd hok (fun f => f)
      subst hhn
      refine vx_out (fun x hx => by rw [hex] at hx; cases hx) hlocks hce hcv hcl (fun t ht _ => ⟨⟨E0, q0, rfl, rfl, by rw [ht]; exact hW⟩, hS.F ht⟩) (fun z hz => hS.2.2 z hz) (by have := hg.1; omega) (by have := hg.2; omega)
  · rcases hhd with ⟨h1e, -⟩ | ⟨hh, hex, hok⟩
    · exact absurd h1e hne
    · -- the row that takes it
      have find : ∀ (r r' : List (Nat × Nat × Nat × Nat)), q_hOK y.cls r r' → q_fnd r pc E0 = some t → ∃ pre x suf, tableOf r' = pre ++ x :: suf ∧ (∀ z ∈ pre, covers z pc = false ∨ (z.catchType ≠ 0 ∧ ∃ nm : String, (Cond.classLink y.cls z.catchType nm).before args s = true ∧ va_Nc (q_exn E0) nm s)) ∧ covers x pc = true ∧ x.catchType ≠ 0 ∧ (Cond.classLink y.cls x.catchType (q_exn E0)).before args s = true ∧ x.handlerPc = t := by
        intro r
        induction r with
        | nil => intro r' _ hg2; cases hg2
        | cons a r ih =>
          intro r' hok hg2
          obtain ⟨a1, b1, t1, e1⟩ := a
          cases r' with
          | nil => exact absurd hok (fun f => f)
          | cons a' r' =>
            obtain ⟨a2, b2, t2, i2⟩ := a'
            obtain ⟨⟨rfl, rfl, rfl, hi, he2, hcw⟩, hok⟩ := hok
            unfold q_fnd at hg2
            split at hg2
            · rename_i hc
              obtain ⟨c1, c2, c3⟩ := hc
              cases hg2
              subst c3
              exact ⟨[], ⟨a1, b1, t, i2⟩, tableOf r', rfl, (fun z hz => nomatch hz), (by simp [covers, c1, c2]), hi, hts _ hcw, rfl⟩
            · rename_i hc
              obtain ⟨pre, x, suf, g1, g2, g3⟩ := ih r' hok hg2
              refine ⟨⟨a1, b1, t1, i2⟩ :: pre, x, suf, by show _ :: tableOf r' = _; rw [g1]; rfl, fun z hz => ?_, g3⟩
              rcases List.mem_cons.mp hz with rfl | hz
              · by_cases hcv : a1 ≤ pc ∧ pc < b1
                · refine Or.inr ⟨hi, q_exn e1, hts _ hcw, ?_⟩
                  have hne : e1 ≠ E0 := fun q => hc ⟨hcv.1, hcv.2, q⟩
                  have hN := hG.2.2.2.2.2.2.2.2.2.1
                  have : (e1 = 0 ∧ E0 = 1) ∨ (e1 = 1 ∧ E0 = 0) := by omega
                  rcases this with ⟨rfl, rfl⟩ | ⟨rfl, rfl⟩
                  · exact hN.1
                  · exact hN.2
                · refine Or.inl ?_
                  simp only [covers, Bool.and_eq_false_iff, decide_eq_false_iff_not]
                  omega
              · exact g2 z hz
      obtain ⟨pre, x, suf, g1, g2, g3, g4, g5, g6⟩ := find _ _ hok hf
      have hcast : (Cond.castable (q_exn E0) (q_exn E0)).before args s = true := by
        have : Cond.castable (q_exn E0) (q_exn E0) ∈ q_Nw := by
          have : E0 = 0 ∨ E0 = 1 := by omega
          rcases this with rfl | rfl
          · exact List.mem_filter.mpr ⟨List.mem_of_getElem? (i := 1196) (by decide +kernel), rfl⟩
          · exact List.mem_filter.mpr ⟨List.mem_of_getElem? (i := 778) (by decide +kernel), rfl⟩
        exact va_Nw.use rfl (hG.2.1 _ this)
      refine vx_catch hown pre x suf (by rw [hex]; exact g1) g2 g3 g4 g5 hcast hce hcv hcl ?_
      rw [g6]
      obtain ⟨hd, hln2, -⟩ := hrow _ (q_look hlk)
      have hnL : n < M.2.2.2.1 := by rw [← hL.2.2.1]; exact hn
      rcases hst with ⟨f, rfl, hf2, hkk⟩ | ⟨rfl, hkk⟩
      · have hl1 : len = 1 := by simpa [q_iln] using hln2
        subst hl1
        refine lv_astore_n hx hb hd hf2 hL.has hnL rfl fun ls' hls' => ?_
        exact hk _ _ _ _ hkk H1 locs1 ls' ⟨hW, hS, hL.sto hls' (fun q => absurd q (by decide)), hq⟩
      · have hl1 : len = 2 := by simpa [q_iln] using hln2
        subst hl1
        refine lv_astore hx hb hd hL.has hnL rfl fun ls' hls' => ?_
        exact hk _ _ _ _ hkk H1 locs1 ls' ⟨hW, hS, hL.sto hls' (fun q => absurd q (by decide)), hq⟩
/-- behind a call -/
theorem so_back {o1 : qO} {h1 : qH} {a : Array Value} {st0 : List Value} {t : Nat} (E : x_E X l M y bytes ret p R s m args meth c d h0 h') (hI : x_I X M.2.2.2.1 s h0 h H locs ls L) (hg1 : q_le h h1) (hg : q_le h1 h')
    (hr : vx_Run p l e R s m args below meth c H locs (h.length - h0.length) (q_sz h - q_sz h0) (h1.length - h.length) (q_sz h1 - q_sz h) (F0 m pc ls st0) (rest.map (x_cv X)) (x_Qc X o1 h1 a) (x_XC X o1 h1) (x_A X))
    (hk : ∀ pc L st h, k pc L st h = some (o, h') → x_Go X l M p e R s m args below meth c h0 h' o pc L st h) (q : q_back M t pc L rest k (some (o1, h1)) = some (o, h')) :
    W p l e R s m args below meth c H locs (h.length - h0.length) (q_sz h - q_sz h0) (x_Qf X o h0 h' below args s) (F0 m pc ls st0) := by
  obtain ⟨hW, hS, hL, hq⟩ := hI
  have c1 : h.length - h0.length + (h1.length - h.length) = h1.length - h0.length := by have := hg1.1; have := hq.1; omega
  have c2 : q_sz h - q_sz h0 + (q_sz h1 - q_sz h) = q_sz h1 - q_sz h0 := by have := hg1.2; have := hq.2; omega
  intro T hT X0
  rcases hr T hT X0 with ⟨v, st₀, t, T', L', e0, X', hL', e1, e2, ⟨⟨v1, hv1, hv2, hw1⟩, hF⟩, st⟩ | ⟨q9, st₀, t, T', L', E9, ce, e0, X', hL', e1, e2, ⟨⟨j, q8, hj, hjE, hw1⟩, hF⟩, hce, hcv, hcl, st⟩
  · cases hv2
    subst hv1
    rcases iv_back q with ⟨v2, h2, i1, i2⟩ | ⟨E1, q1, h2, i1, -⟩
    · cases i1
      rw [c1, c2] at X'
      have hS1 : va_S (x_A X) s.heap T'.heap (locs ++ L') := by
        obtain ⟨hz, hk2⟩ := hF
        rw [e0] at hz hk2
        exact ⟨Nat.le_trans hS.1 (by rw [e1]; exact hz), fun q h1 h2 => by rw [e1, hk2 q (Nat.lt_of_lt_of_le h1 hS.1) h2]; exact hS.2.1 q h1 h2, fun q hq => by
          rcases List.mem_append.mp hq with h | h
          · exact hS.2.2 q h
          · exact hL' q h⟩
      obtain ⟨t2, a1, b1⟩ := hk _ _ _ _ i2 T'.heap (locs ++ L') ls ⟨by rw [e1]; exact hw1, hS1, hL, hq.tr hg1⟩ T' rfl X'
      refine ⟨t2, st t2 ?_, b1⟩
      have hst : (Option.map (x_cv X) v1).toList ++ List.map (x_cv X) rest = (v1.toList ++ rest).map (x_cv X) := by cases v1 <;> simp
      show Steps p.tables e below (T'.setTop (F0 m (pc + 3) ls ((Option.map (x_cv X) v1).toList ++ List.map (x_cv X) rest))) t2
      rw [hst]
      exact a1
    · cases i1
  · subst hj
    subst hjE
    rcases iv_back q with ⟨v2, h2, i1, -⟩ | ⟨E1, q1, h2, i1, i2⟩
    · cases i1
    · cases i1
      rw [c1, c2] at X'
      have hS1 : va_S (x_A X) s.heap T'.heap (locs ++ L') := by
        obtain ⟨hz, hk2⟩ := hF
        rw [e0] at hz hk2
        exact ⟨Nat.le_trans hS.1 (by rw [e1]; exact hz), fun q h1 h2 => by rw [e1, hk2 q (Nat.lt_of_lt_of_le h1 hS.1) h2]; exact hS.2.1 q h1 h2, fun q hq => by
          rcases List.mem_append.mp hq with h | h
          · exact hS.2.2 q h
          · exact hL' q h⟩
      obtain ⟨t2, a1, b1⟩ := so_thr (rest := rest.map (x_cv X)) E (H1 := T'.heap) (locs1 := locs ++ L') ⟨by rw [e1]; exact hw1, hS1, hL, hq.tr hg1⟩ hg (by rw [e1]; exact hce) hcv hcl hk i2 T' rfl X'
      exact ⟨t2, st.trans a1, b1⟩
end SOUND6
