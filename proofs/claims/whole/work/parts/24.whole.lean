/-! Runs and calls of the small machine are runs and calls of the machine. -/
theorem so_it {X : qX} {l : Launch} {M : qM} {y : MethodName} {bytes : ByteArray} {ret : Option FieldType} {p : Program} {e : Env} {R : Room} {s : State} {m : MethodId} {args : Array Value} {below : List Frame} {meth : Method} {c : Code} {d : Nat} {h0 h' : qH} {o : qO} (hM : ∀ mi, x_M X l d mi) (hA : q_mAll) (hSL : x_SL X l) (hSC : x_SC X l) (E : x_E X l M y bytes ret p R s m args meth c d h0 h') :
    ∀ (n : Nat) (pc : Nat) (L st : List Value) (h : qH), q_it M (q_call q_MT d) n pc L st h = some (o, h') → x_Go X l M p e R s m args below meth c h0 h' o pc L st h
  | 0, pc, L, st, h, q => by cases q
  | n + 1, pc, L, st, h, q => by
    have q1 : q_ex M (q_call q_MT d) pc L st h (q_it M (q_call q_MT d) n) = some (o, h') := q
    unfold q_ex at q1
    split at q1
    · rename_i i len hl
      exact so_ei hM hA hSL hSC E hl (so_it hM hA hSL hSC E n) (gr_it (gr_call q_MT d) n) q1
    · cases q1
theorem x_sl {X : qX} : ∀ {as : List Value}, (∀ v ∈ as, v.category = 1) → (lg_sl (as.map (x_cv X))).length = as.length
  | [], _ => rfl
  | v :: as, h => by
    have h1 : ¬ (x_cv X v).category = 2 := by rw [x_cat, h v List.mem_cons_self]; decide
    have ih := x_sl (X := X) (as := as) fun w hw => h w (List.mem_cons_of_mem _ hw)
    simp only [lg_sl, List.map_cons, List.flatMap_cons, if_neg h1] at ih ⊢
    simp [ih]
theorem x_argi {X : qX} : ∀ {as : List Value} (i : Nat), (∀ v ∈ as, v.category = 1) → ∀ (j : Nat) (v : Value), as[j]? = some v → (i + j, x_cv X v) ∈ lv_args i (as.map (x_cv X))
  | [], i, _, j, v, hj => by cases hj
  | w :: as, i, h, 0, v, hj => by
    cases hj
    exact List.mem_cons_self
  | w :: as, i, h, j + 1, v, hj => by
    have h1 : ¬ (x_cv X w).category = 2 := by rw [x_cat, h w List.mem_cons_self]; decide
    have ih := x_argi (X := X) (as := as) (i + 1) (fun u hu => h u (List.mem_cons_of_mem _ hu)) j v hj
    show (i + (j + 1), x_cv X v) ∈ (i, x_cv X w) :: lv_args (if (x_cv X w).category = 2 then i + 2 else i + 1) (as.map (x_cv X))
    rw [if_neg h1, show i + (j + 1) = i + 1 + j by omega]
    exact List.mem_cons_of_mem _ ih
theorem x_L0 {X : qX} {as : List Value} {n : Nat} (h : ∀ v ∈ as, v.category = 1) (hn : as.length ≤ n) : x_L X n ((lg_sl (as.map (x_cv X)) ++ List.replicate (n - (lg_sl (as.map (x_cv X))).length) Slot.unset).toArray) (as ++ List.replicate (n - as.length) q_junk) := by
  obtain ⟨h1, h2, h3⟩ := lv_entry (as.map (x_cv X)) (n := n) (by rw [x_sl h]; exact hn)
  refine ⟨h1, h2, by simp; omega, fun i v hi hc => ?_⟩
  by_cases hl : i < as.length
  · rw [List.getElem?_append_left hl] at hi
    have := h3 _ (x_argi (X := X) 0 h i v hi)
    simpa using this
  · rw [List.getElem?_append_right (by omega)] at hi
    have := List.mem_of_getElem? hi
    rw [List.mem_replicate] at this
    rw [this.2] at hc
    exact absurd hc (by decide)
theorem x_Mall {X : qX} {l : Launch} (htr : l.stackTraces = false) (hA : q_mAll) (hT : ∀ mi M y bytes ret cw, q_MT[mi]? = some M → q_mi[mi]? = some (y, bytes, ret) → q_cws[mi]? = some cw → q_kd.getD mi 9 ≠ 9 → q_thOK M y) (hSL : x_SL X l) (hSC : x_SC X l) : ∀ d mi, x_M X l d mi
  | 0, mi => by
    intro M y bytes ret cw as h o h' _ _ _ _ hc
    cases hc
  | d + 1, mi => by
    intro M y bytes ret cw as h o h' hM1 hM2 hM3 hkd hc
    have hgr := gr_call q_MT (d + 1) _ _ _ _ hc
    unfold q_call at hc
    rw [hM1] at hc
    dsimp only at hc
    split at hc
    · rename_i hlen
      obtain ⟨hlen, hcat⟩ := hlen
      have hcat : ∀ v ∈ as, v.category = 1 := fun v hv => by simpa using List.all_eq_true.mp hcat v hv
      obtain ⟨n, hn⟩ := q_run_ex hc
      obtain ⟨M', y', bytes', ret', cw', e1, e2, e3, hok⟩ := hA mi hkd
      cases Option.some.inj (e1.symm.trans hM1)
      cases Option.some.inj (e2.symm.trans hM2)
      cases Option.some.inj (e3.symm.trans hM3)
      have hth := hT mi M y bytes ret cw hM1 hM2 hM3 hkd
      obtain ⟨o1, o2, o3, o4, o5, o6, o7, o8, o9⟩ := hok
      have ih := x_Mall (X := X) htr hA hT hSL hSC d
      have body : ∀ (p : Program) (e : Env) (s : State) (m : MethodId) (args : Array Value) (below : List Frame) (meth : Method) (c : Code) (s₁ : State), BodyLoose p l y (headSpec (cw :: q_Ws) (x_rm (d + 1) h h')) bytes M.2.2.2.1 ret e s m args below meth c s₁ → c.maxLocals = M.2.2.2.1 → ((M.2.2.1 = [] ∧ ∀ x ∈ c.exceptionTable.toList, False) ∨ ∃ hh, c.exceptionTable.toList = tableOf hh ∧ q_hOK y.cls M.2.2.1 hh) → x_Pc X as h args s →
          W p l e (headSpec (cw :: q_Ws) (x_rm (d + 1) h h')).room s m args below meth c s.heap [] 0 0 (vx_MQ below (x_Qc X o h') (x_XC X o h') args s (h'.length - h.length) (q_sz h' - q_sz h) (x_A X)) (entryFrame m args M.2.2.2.1) := by
        intro p e s m args below meth c s₁ B hml hhd hP
        obtain ⟨hargs, hG, hW⟩ := hP
        have hts := atoms_spec (ws := cw :: q_Ws) B.pre
        have E : x_E X l M y bytes ret p (x_rm (d + 1) h h') s m args meth c d h h' := ⟨B.exec, B.bytes, hml, findClass_of_methodNamed B.named, fun w hw => hts w (List.mem_cons_of_mem _ hw), B.notSynchronized, B.returns, hG, ⟨by show 2 * d + 21 ≤ 2 * (d + 1) + 20; omega, by show 64 * d + 464 ≤ 64 * (d + 1) + 400; omega⟩, ⟨Nat.le_refl _, Nat.le_refl _⟩, htr, by rw [hW.2.1]; omega, o1, o2, (name_of_methodNamed B.named B.method).1, o3, hhd, hth⟩
        subst hargs
        rw [lg_entry_eq]
        have := so_it (e := e) (below := below) ih hA hSL hSC E n 0 _ [] h hn s.heap [] _ ⟨hW, va_S.rf, x_L0 hcat hlen, q_le.rf⟩
        rw [Nat.sub_self, Nat.sub_self] at this
        exact this
      generalize hkq : q_kd.getD mi 9 = kk at o9 hkd
      match kk, o9 with
      | 0, o9 => exact vx_ofW o6 (by rw [o9.1]) fun p e s m args below meth c s₁ B hml hex hP => body p e s m args below meth c s₁ B hml (Or.inl ⟨o9.2.1, hex⟩) hP
      | 1, o9 => exact vx_ofW o6 (by rw [o9.1]) fun p e s m args below meth c s₁ B hml hex hP => body p e s m args below meth c s₁ B hml (Or.inl ⟨o9.2.1, hex⟩) hP
      | 2, o9 =>
        have hret : ret = none := o9.2.2.2.2
        exact vx_ofW o6 (by rw [o9.1, hret]) fun p e s m args below meth c s₁ B hml hex hP => body p e s m args below meth c s₁ B hml (Or.inl ⟨o9.2.1, hex⟩) hP
      | 3, o9 =>
        obtain ⟨⟨hh, g1, g2⟩, g3⟩ := o9
        refine vx_ofWH (hh := hh) o6 (by rw [g1]) fun p e s m args below meth c s₁ B hml hP => body p e s m args below meth c s₁ B hml (Or.inr ⟨hh, ?_, g2⟩) hP
        have hts := atoms_spec (ws := cw :: q_Ws) B.pre
        have hw := hts cw List.mem_cons_self
        rw [g1] at hw
        exact vx_table (x := y) B hw
      | n + 4, o9 => exact absurd o9 (fun f => f)
    · cases hc
