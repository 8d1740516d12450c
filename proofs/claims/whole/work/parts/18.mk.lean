section SOUND4
variable {X : qX} {l : Launch} {M : qM} {y : MethodName} {bytes : ByteArray} {ret : Option FieldType} {p : Program} {e : Env} {R : Room} {s : State} {m : MethodId} {args : Array Value} {below : List Frame} {meth : Method} {c : Code} {d : Nat} {h0 h' : qH} {o : qO}
variable {pc : Nat} {L st : List Value} {h : qH} {k : qK} {H : Heap} {locs : List Loc} {ls : Array Slot} {rest : List Value} {Q : State → Prop} {cells slots : Nat}
/-- there is room for a cell more -/
theorem x_room {e1 : va_E} (E : x_E X l M y bytes ret p R s m args meth c d h0 h') (h1 : q_le h0 h) (h2 : q_le (h ++ [e1]) h') : h.length - h0.length + 1 ≤ R.cells ∧ q_sz h - q_sz h0 + q_se e1 ≤ R.slots ∧ h.length - h0.length + 1 = (h ++ [e1]).length - h0.length ∧ q_sz h - q_sz h0 + q_se e1 = q_sz (h ++ [e1]) - q_sz h0 := by
  have hC := E.2.2.2.2.2.2.2.2.2.1
  have a1 := h1.1
  have a2 := h1.2
  have a3 := h2.1
  have a4 := h2.2
  have hl : (h ++ [e1]).length = h.length + 1 := by simp
  rw [q_sz_app] at a4
  rw [hl] at a3
  rw [hl, q_sz_app]
  omega
theorem so_new {j ci a2 a3 : Nat} {fs : List Value} (E : x_E X l M y bytes ret p R s m args meth c d h0 h') (hI : x_I X M.2.2.2.1 s h0 h H locs ls L) (hd : decode bytes pc = .ok (.new j, 3)) (hk : q_lk M j = some (11, ci, a2, a3)) (hf : q_dfl[ci]? = some fs) (hg : q_le (h ++ [.inr (ci, fs)]) h')
    (kk : x_Go X l M p e R s m args below meth c h0 h' o (pc + 3) L (.ref h.length :: st) (h ++ [.inr (ci, fs)])) : W p l e R s m args below meth c H locs (h.length - h0.length) (q_sz h - q_sz h0) (x_Qf X o h0 h' below args s) (F0 m pc ls (st.map (x_cv X))) := by
  obtain ⟨r1, r2, r3, r4⟩ := x_room E hI.2.2.2 hg
  obtain ⟨hx, hb, hml, hown, hts, hlocks, hr, hG, hR, hC, htr, hsz, hrow, hln, hnm, hlo, hhd, hth⟩ := E
  obtain ⟨hW, hS, hL, hq⟩ := hI
  have hok := hlo _ (q_look hk)
  simp only [q_lkOK, decide_eq_true_eq] at hok
  obtain ⟨q, hq1, hq2⟩ := x_cl hok
  obtain ⟨C, T, N⟩ := q
  obtain ⟨c1, c2, c3, c4, ty, fs0, c5, c6, c7, c8, c9⟩ := q_cAll hq1 hok
  cases Option.some.inj (c6.symm.trans hf)
  have hw := x_ws (args := args) (s := s) hts hln hk rfl
  have hw : (Cond.classLink y.cls j C).before args s = true := by
    have e1 : q_lw y.cls j (11, ci, a2, a3) = Cond.classLink y.cls j C := by
      simp only [q_lw, q_cn, hq2]
    rw [← e1]; exact hw
  have hse : q_se (.inr (ci, fs)) = N := by
    show (if 12 ≤ ci then 6 else fs.length) = N
    rw [if_neg (by omega)]
    exact c7
  rw [hse] at r2 r4
  have hmap : fs.map (x_cv X) = fs := by
    have : ∀ v ∈ fs, x_cv X v = v := fun v hv => by rcases c9 v hv with rfl | rfl <;> rfl
    calc fs.map (x_cv X) = fs.map id := List.map_congr_left this
      _ = fs := List.map_id fs
  refine xr_new (fs := fs) hx hb hts c1 ty c5 hown hw (hts _ c2.1) (hts _ c2.2) hG.1 hS hq1 c8 r1 r2 hd fun H1 z1 o1 hat hS1 => ?_
  rw [r3, r4]
  have hn := x_new hW
  have := kk H1 locs ls ⟨x_app hW z1 o1 (by show va_at (x_D X) q_cl (H.size, .inr (ci, fs.map (x_cv X))) H1; rw [hmap]; exact hat), hS1, hL, hq.tr q_le_app⟩
  rw [← hn]
  exact this
theorem q_arrw : Cond.arrayClass .int ∈ q_Ws ∧ Cond.arrayClass .long ∈ q_Ws ∧ Cond.arrayClass .byte ∈ q_Ws ∧ Cond.arrayClass .boolean ∈ q_Ws := ⟨List.mem_filter.mpr ⟨List.mem_of_getElem? (i := 276) (by decide +kernel), by decide +kernel⟩, List.mem_filter.mpr ⟨List.mem_of_getElem? (i := 2202) (by decide +kernel), by decide +kernel⟩, List.mem_filter.mpr ⟨List.mem_of_getElem? (i := 206) (by decide +kernel), by decide +kernel⟩, List.mem_filter.mpr ⟨List.mem_of_getElem? (i := 1736) (by decide +kernel), by decide +kernel⟩⟩
theorem so_nar {t : Nat} {n : Int32} {at0 : ArrayType} (E : x_E X l M y bytes ret p R s m args meth c d h0 h') (hI : x_I X M.2.2.2.1 s h0 h H locs ls L) (hd : decode bytes pc = .ok (.newarray at0, 2)) (ht : q_atk at0 = t) (h9 : t ≠ 9) (h1 : 0 ≤ n) (h2 : n.toNatClampNeg ≤ 100000) (hg : q_le (h ++ [q_mk t n.toNatClampNeg]) h')
    (kk : x_Go X l M p e R s m args below meth c h0 h' o (pc + 2) L (.ref h.length :: st) (h ++ [q_mk t n.toNatClampNeg])) : W p l e R s m args below meth c H locs (h.length - h0.length) (q_sz h - q_sz h0) (x_Qf X o h0 h' below args s) (F0 m pc ls (.int n :: st.map (x_cv X))) := by
  obtain ⟨r1, r2, r3, r4⟩ := x_room E hI.2.2.2 hg
  obtain ⟨hx, hb, hml, hown, hts, hlocks, hr, hG, hR, hC, htr, hsz, hrow, hln, hnm, hlo, hhd, hth⟩ := E
  obtain ⟨hW, hS, hL, hq⟩ := hI
  have hn := x_new hW
  have hn0 : ¬ n < 0 := Int32.not_lt.mpr h1
  obtain ⟨w1, w2, w3, w4⟩ := q_arrw
  have fin : ∀ (H1 : Heap), H1.size = H.size + 1 → (∀ q : Nat, q < H.size → H1[q]? = H[q]?) → va_at (x_D X) q_cl (H.size, x_ce X (q_mk t n.toNatClampNeg)) H1 → va_S (x_A X) s.heap H1 locs → W p l e R s m args below meth c H1 locs (h.length - h0.length + 1) (q_sz h - q_sz h0 + n.toNatClampNeg) (x_Qf X o h0 h' below args s) (F0 m (pc + 2) ls (.ref H.size :: st.map (x_cv X))) := by
    intro H1 z1 o1 hat hS1
    have hse : q_se (q_mk t n.toNatClampNeg) = n.toNatClampNeg := rfl
    rw [hse] at r4
    rw [r3, r4]
    have := kk H1 locs ls ⟨x_app hW z1 o1 hat, hS1, hL, hq.tr q_le_app⟩
    rw [← hn]
    exact this
  have r2' : q_sz h - q_sz h0 + n.toNatClampNeg ≤ R.slots := r2
  cases at0 <;> (first | (exact absurd ht.symm h9) | (subst ht))
  case boolean => exact xr_newa (atype := .boolean) (ty := .boolean) (a0 := (n.toNatClampNeg, .inl fun _ => 0)) hx hb (hts _ w4) rfl hS (hG.1.2 3 _ rfl).2 (fun cA => rfl) hn0 rfl (by show n.toNatClampNeg * 1 ≤ _; omega) r1 r2' hd fin
  case byte => exact xr_newa (atype := .byte) (ty := .byte) (a0 := (n.toNatClampNeg, .inl fun _ => 0)) hx hb (hts _ w3) rfl hS (hG.1.2 2 _ rfl).2 (fun cA => rfl) hn0 rfl (by show n.toNatClampNeg * 1 ≤ _; omega) r1 r2' hd fin
  case int => exact xr_newa (atype := .int) (ty := .int) (a0 := (n.toNatClampNeg, .inl fun _ => 0)) hx hb (hts _ w1) rfl hS (hG.1.2 0 _ rfl).2 (fun cA => rfl) hn0 rfl (by show n.toNatClampNeg * 4 ≤ _; omega) r1 r2' hd fin
  case long => exact xr_newa (atype := .long) (ty := .long) (a0 := (n.toNatClampNeg, .inr (.inl fun _ => 0))) hx hb (hts _ w2) rfl hS (hG.1.2 1 _ rfl).2 (fun cA => rfl) hn0 rfl (by show n.toNatClampNeg * 8 ≤ _; omega) r1 r2' hd fin
theorem so_anr {j a1 a2 a3 : Nat} {n : Int32} (E : x_E X l M y bytes ret p R s m args meth c d h0 h') (hI : x_I X M.2.2.2.1 s h0 h H locs ls L) (hd : decode bytes pc = .ok (.anewarray j, 3)) (hk : q_lk M j = some (13, a1, a2, a3)) (h1 : 0 ≤ n) (h2 : n.toNatClampNeg ≤ 100000) (hg : q_le (h ++ [q_mk 4 n.toNatClampNeg]) h')
    (kk : x_Go X l M p e R s m args below meth c h0 h' o (pc + 3) L (.ref h.length :: st) (h ++ [q_mk 4 n.toNatClampNeg])) : W p l e R s m args below meth c H locs (h.length - h0.length) (q_sz h - q_sz h0) (x_Qf X o h0 h' below args s) (F0 m pc ls (.int n :: st.map (x_cv X))) := by
  obtain ⟨r1, r2, r3, r4⟩ := x_room E hI.2.2.2 hg
  obtain ⟨hx, hb, hml, hown, hts, hlocks, hr, hG, hR, hC, htr, hsz, hrow, hln, hnm, hlo, hhd, hth⟩ := E
  obtain ⟨hW, hS, hL, hq⟩ := hI
  have hn := x_new hW
  have hw : (Cond.classLink y.cls j "WinkBank$Kept").before args s = true := x_ws (args := args) (s := s) hts hln hk rfl
  have hao := hG.2.2.2.2.2.2.2.2.2.2.2.1
  obtain ⟨kA, comp, g1, g2, g3, g4⟩ := (hG.1.2 4 _ rfl).2
  refine xr_anew (D := x_D X) (cl := q_cl) (C := "WinkBank$Kept") hx hb hown hw (va_AO.use hao) hS g4 (Int32.not_lt.mpr h1) rfl (by omega) r1 (show q_sz h - q_sz h0 + n.toNatClampNeg ≤ R.slots from r2) hd fun H1 z1 o1 hat hS1 => ?_
  have hse : q_se (q_mk 4 n.toNatClampNeg) = n.toNatClampNeg := rfl
  rw [hse] at r4
  rw [r3, r4]
  have := kk H1 locs ls ⟨x_app hW z1 o1 hat, hS1, hL, hq.tr q_le_app⟩
  rw [← hn]
  exact this
end SOUND4
