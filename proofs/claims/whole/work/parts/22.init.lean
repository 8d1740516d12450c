section SOUND8
variable {X : qX} {l : Launch} {M : qM} {y : MethodName} {bytes : ByteArray} {ret : Option FieldType} {p : Program} {e : Env} {R : Room} {s : State} {m : MethodId} {args : Array Value} {below : List Frame} {meth : Method} {c : Code} {d : Nat} {h0 h' : qH} {o : qO}
variable {pc : Nat} {L st : List Value} {h : qH} {k : qK} {H : Heap} {locs : List Loc} {ls : Array Slot} {rest : List Value}
/-- a method that answered, as one that can't throw -/
theorem x_met {y : MethodName} {ws : List Cond} {rm : Room} {Pc : Array Value → State → Prop} {v : Option Value} {h1 : qH} {mc ms : Nat} {free : Addr → Prop} (hM : vx_Met l y ws rm Pc (x_Qc X (.inl v) h1) (x_XC X (.inl v) h1) mc ms free) : Met l y ws rm Pc (x_Qc X (.inl v) h1) mc ms free := by
  intro p e a1 a2 a3 s m args below hf hap hP hK
  obtain ⟨n, o, b1, b2, b3, b4⟩ := hM p e a1 a2 a3 s m args below hf hap hP hK
  refine ⟨n, o, b1, b2, b3, ?_⟩
  rcases b4 with b4 | ⟨q, -, E, ce, L, hx, -⟩
  · exact b4
  · obtain ⟨⟨j, q2, hj, -⟩, -⟩ := hx
    cases hj
theorem so_ans {v1 : Option Value} {h1 : qH} {a : Array Value} {st0 : List Value} (hI : x_I X M.2.2.2.1 s h0 h H locs ls L) (hg1 : q_le h h1)
    (hr : va_Run p l e R s m args below meth c H locs (h.length - h0.length) (q_sz h - q_sz h0) (h1.length - h.length) (q_sz h1 - q_sz h) (F0 m pc ls st0) (rest.map (x_cv X)) (x_Qc X (.inl v1) h1 a) (x_A X))
    (hk : x_Go X l M p e R s m args below meth c h0 h' o (pc + 3) L (v1.toList ++ rest) h1) :
    W p l e R s m args below meth c H locs (h.length - h0.length) (q_sz h - q_sz h0) (x_Qf X o h0 h' below args s) (F0 m pc ls st0) := by
  obtain ⟨hW, hS, hL, hq⟩ := hI
  have c1 : h.length - h0.length + (h1.length - h.length) = h1.length - h0.length := by have := hg1.1; have := hq.1; omega
  have c2 : q_sz h - q_sz h0 + (q_sz h1 - q_sz h) = q_sz h1 - q_sz h0 := by have := hg1.2; have := hq.2; omega
  intro T hT X0
  obtain ⟨v, st₀, t, T', L', e0, X', hL', e1, e2, ⟨⟨v2, hv1, hv2, hw1⟩, hF⟩, st⟩ := hr T hT X0
  cases hv2
  cases hv1
  rw [c1, c2] at X'
  have hS1 : va_S (x_A X) s.heap T'.heap (locs ++ L') := by
    obtain ⟨hz, hk2⟩ := hF
    rw [e0] at hz hk2
    exact ⟨Nat.le_trans hS.1 (by rw [e1]; exact hz), fun q h1 h2 => by rw [e1, hk2 q (Nat.lt_of_lt_of_le h1 hS.1) h2]; exact hS.2.1 q h1 h2, fun q hq => by
      rcases List.mem_append.mp hq with h | h
      · exact hS.2.2 q h
      · exact hL' q h⟩
  obtain ⟨t2, a1, b1⟩ := hk T'.heap (locs ++ L') ls ⟨by rw [e1]; exact hw1, hS1, hL, hq.tr hg1⟩ T' rfl X'
  refine ⟨t2, st t2 ?_, b1⟩
  have hst : (Option.map (x_cv X) v1).toList ++ List.map (x_cv X) rest = (v1.toList ++ rest).map (x_cv X) := by cases v1 <;> simp
  show Steps p.tables e below (T'.setTop (F0 m (pc + 3) ls ((Option.map (x_cv X) v1).toList ++ List.map (x_cv X) rest))) t2
  rw [hst]
  exact a1
theorem so_init {j kd mi n ci a : Nat} {as : List Value} {fs : List Value} {h1 : qH} (hM : ∀ mi, x_M X l d mi) (hA : q_mAll) (E : x_E X l M y bytes ret p R s m args meth c d h0 h') (hI : x_I X M.2.2.2.1 s h0 h H locs ls L) (hd : decode bytes pc = .ok (.invokespecial j, 3)) (hk : q_lk M j = some (kd, mi, n, ci)) (hkd : kd = 4 ∨ kd = 17) (hst : (st.take (n + 1)).reverse = .ref a :: as) (hn : as.length = n) (h8 : q_cat (st.drop (n + 1)) ≤ 8) (he : h[a]? = some (.inr (ci, fs)))
    (hc : q_call q_MT d mi (.ref a :: as) h = some (.inl none, h1)) (hg : q_le h1 h') (hkk : x_Go X l M p e R s m args below meth c h0 h' o (pc + 3) L (st.drop (n + 1)) h1) :
    W p l e R s m args below meth c H locs (h.length - h0.length) (q_sz h - q_sz h0) (x_Qf X o h0 h' below args s) (F0 m pc ls (st.map (x_cv X))) := by
  have hg1 : q_le h h1 := gr_call q_MT d _ _ _ _ hc
  have hfit := x_fits E hI.2.2.2 hg1 hg
  have E0 := E
  have hI0 := hI
  obtain ⟨hx, hb, hml, hown, hts, hlocks, hr, hG, hR, hC, htr, hsz, hrow, hln, hnm, hlo, hhd, hth⟩ := E
  obtain ⟨hW, hS, hL, hq⟩ := hI
  have hok := hlo _ (q_look hk)
  have hok : ((((ci < 12 ∧ (q_mn mi).cls = q_cn ci) ∧ (parseMethodDescriptor (q_mn mi).desc).map (fun d => d.parameters.length) = some n) ∧ (q_mn mi).name = "<init>") ∧ q_kd.getD mi 9 = 2) := by
    rcases hkd with rfl | rfl <;> (simp only [q_lkOK, Bool.and_eq_true, decide_eq_true_eq] at hok; exact hok)
  obtain ⟨⟨⟨⟨k1, k2⟩, k3⟩, k5⟩, k4⟩ := hok
  obtain ⟨M1, y1, b1, r1, cw, m1, m2, m3, m4⟩ := hA mi (by rw [k4]; decide)
  have hy := x_mnq m2
  rw [hy] at k2 k3
  obtain ⟨o1', o2, o3, o4, o5, o6, o7, o8, o9⟩ := m4
  rw [k4] at o9
  obtain ⟨p1, p2, p3, p4, p5⟩ := o9
  have hMt := x_met (hM mi M1 y1 b1 r1 cw _ _ _ _ m1 m2 m3 (by rw [k4]; decide) hc)
  have hstm : st.map (x_cv X) = (as.map (x_cv X)).reverse ++ .ref (x_ad X a) :: (st.drop (n + 1)).map (x_cv X) := by
    have := congrArg (List.map (x_cv X)) (x_stk hst)
    rw [this]
    simp [x_cv]
  have gd : GoodIn q_Ws (cw :: q_Ws) := q_good fun w hw => by
    rcases List.mem_cons.mp hw with rfl | hw
    · exact o4
    · exact hw
  have hroom : (x_rm d h h1).frames + 1 ≤ R.frames ∧ 8 + (M1.2.2.2.1 + 11) + (x_rm d h h1).locals ≤ R.locals := ⟨by show 2 * d + 20 + 1 ≤ R.frames; omega, by show 8 + (M1.2.2.2.1 + 11) + (64 * d + 400) ≤ R.locals; omega⟩
  refine so_ans (v1 := none) (a := (Value.ref (x_ad X a) :: as.map (x_cv X)).toArray) (rest := st.drop (n + 1)) hI0 hg1 ?_ hkk
  have hpre := x_pre (as := .ref a :: as) E0 hI0
  rcases hkd with rfl | rfl
  · have hlw : (Cond.methodLink y.cls j y1).before args s = true := by
      have := x_ws (args := args) (s := s) hts hln hk rfl
      simp only [q_lw, hy] at this
      exact this
    exact va_runI (As := as.map (x_cv X)) (Ts := q_Ws) ⟨hx, hb, hml, hown, hts⟩ hMt (cwI n hts gd (by rw [p1]) rfl rfl (hts _ o5) hlw (hts _ p3) p4 ⟨o7.1, o7.2, k3⟩ hroom) ⟨x_bl, hpre⟩ rfl (by rw [List.length_map]; exact hn) hL.1 hstm (lv_room (x_catm h8)) hd hfit
  · have hlw : va_Nw (Cond.methodLinkNest y.cls j y1 "WinkBank") s := by
      have := x_nw (s := s) hG.2.1 hln hk rfl
      simp only [q_lw, hy] at this
      exact this
    exact va_runIN (host := "WinkBank") (As := as.map (x_cv X)) (Ts := q_Ws) ⟨hx, hb, hml, hown, hts⟩ hMt ⟨va_cnB n hts gd (by rw [p1]) rfl rfl hlw (hts _ o5) ⟨o7.1, o7.2, k3⟩ hroom, p4, hts _ p3⟩ ⟨x_bl, hpre⟩ rfl (by rw [List.length_map]; exact hn) hL.1 hstm (lv_room (x_catm h8)) hd hfit
theorem so_throw {j len E0 a2 a3 : Nat} (E : x_E X l M y bytes ret p R s m args meth c d h0 h') (hI : x_I X M.2.2.2.1 s h0 h H locs ls L) (hm : M.1.lookup pc = some (.new j, len)) (hk : q_lk M j = some (12, E0, a2, a3)) (hh : M.2.2.1 = []) (h8 : q_cat st ≤ 8) (ho : o = .inr (E0, h.length)) (hh' : h' = h ++ [.inr (12 + E0, [])]) :
    W p l e R s m args below meth c H locs (h.length - h0.length) (q_sz h - q_sz h0) (x_Qf X o h0 h' below args s) (F0 m pc ls (st.map (x_cv X))) := by
  subst ho
  subst hh'
  obtain ⟨r1, r2, r3, r4⟩ := x_room (e1 := .inr (12 + E0, [])) E hI.2.2.2 q_le.rf
  obtain ⟨hx, hb, hml, hown, hts, hlocks, hr, hG, hR, hC, htr, hsz, hrow, hln, hnm, hlo, hhd, hth⟩ := E
  obtain ⟨hW, hS, hL, hq⟩ := hI
  obtain ⟨ic, names, t1, t2, t3, t4, t5, t6, t7, t8⟩ := hth _ _ _ _ _ _ hm hk
  obtain ⟨d0, l0, -⟩ := hrow _ (q_look hm)
  have hl3 : len = 3 := by simpa [q_iln] using l0
  subst hl3
  have hE : E0 < 2 := by
    have hok := hlo _ (q_look hk)
    simpa only [q_lkOK, decide_eq_true_eq] using hok
  have hse : q_se (.inr (12 + E0, [])) = 6 := by simp [q_se]
  rw [hse] at r2 r4
  have hcl : (Cond.classLink y.cls j (q_exn E0)).before args s = true := x_ws (args := args) (s := s) hts hln hk rfl
  have hex : ∀ x ∈ c.exceptionTable.toList, False := by
    rcases hhd with ⟨-, hex⟩ | ⟨hh2, hex, hok⟩
    · exact hex
    · rw [hh] at hok
      cases hh2 with
      | nil => intro x hx; rw [hex] at hx; cases hx
      | cons a b => exact absurd hok (fun f => f)
  have hsum := x_catm (X := X) h8
  refine xr_throw (names := names) (A := x_A X) hx hb htr hown t4 t5 hcl (hts _ t7) (fun w hw => ?_) (fun w hw => ?_) hG.2.2.2.2.2.2.2.1 hG.2.2.2.2.2.2.2.2.1 hS (hL.1.trans hml.symm) d0 (hrow _ (q_look t1)).1 (hrow _ (q_look t2)).1 (hrow _ (q_look t3)).1 (fun x hx => absurd (hex x hx) (fun f => f)) (by omega) (by omega) r1 r2 hlocks (fun t ce hal hz oq hce hcv hcc => ?_) (fun z hz => hS.2.2 z hz) (by rw [← r3]; exact Nat.le_refl _) (by rw [← r4]; exact Nat.le_refl _)
  · rcases (t8 w hw).2 with h1 | h1
    · exact hts _ h1
    · have h2 := (List.mem_filter.mp h1).2
      have h3 := hG.2.1 w h1
      exact va_Nw.use (by cases w <;> first | rfl | (exact absurd h2 (by intro q; cases q))) h3
  · rcases List.mem_cons.mp hw with rfl | hw
    · rfl
    · rcases List.mem_cons.mp hw with rfl | hw
      · rfl
      · exact (t8 w hw).1
  · refine ⟨⟨E0, h.length, rfl, rfl, x_app hW hz oq ?_⟩, ?_⟩
    · have hcls : ∃ q : vw_C, q_cl[12 + E0]? = some q ∧ q.1 = q_exn E0 ∧ q.2.2 = 0 := by
        have : E0 = 0 ∨ E0 = 1 := by omega
        rcases this with rfl | rfl
        · exact ⟨_, rfl, rfl, rfl⟩
        · exact ⟨_, rfl, rfl, rfl⟩
      obtain ⟨q, q1, q2, q3⟩ := hcls
      have hKn := hG.1.1 (12 + E0) q q1
      have hcc2 : (x_D X).1 (12 + E0) = ce.cls := by
        have := hKn.2.1
        rw [q2] at this
        exact Option.some.inj (this.symm.trans hcc)
      exact ⟨q, q1, ce, hce, hcc2.symm, hcv, fun k hk => by rw [q3] at hk; exact absurd hk (Nat.not_lt_zero k)⟩
    · refine ⟨Nat.le_trans hS.1 (by omega), fun q g1 g2 => ?_⟩
      rw [oq q (Nat.lt_of_lt_of_le g1 hS.1)]
      exact hS.2.1 q g1 g2
end SOUND8
