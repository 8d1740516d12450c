theorem q_w0 : Cond.native arraycopyName ∈ q_Ws := List.mem_filter.mpr ⟨List.mem_of_getElem? (i := 291) (by decide +kernel), by decide +kernel⟩
theorem q_w1 : Cond.static arraycopyName ∈ q_Ws := List.mem_filter.mpr ⟨List.mem_of_getElem? (i := 290) (by decide +kernel), by decide +kernel⟩
theorem q_w2 : Cond.initialized "java/lang/System" ∈ q_Ws := List.mem_filter.mpr ⟨List.mem_of_getElem? (i := 136) (by decide +kernel), by decide +kernel⟩
theorem q_w3 : Cond.static Lib.Math.max.name ∈ q_Ws := List.mem_filter.mpr ⟨List.mem_of_getElem? (i := 669) (by decide +kernel), by decide +kernel⟩
theorem q_w4 : Cond.initialized "java/lang/Math" ∈ q_Ws := List.mem_filter.mpr ⟨List.mem_of_getElem? (i := 148) (by decide +kernel), by decide +kernel⟩
theorem q_w5 : Cond.code Lib.Math.max.name Lib.Math.max.code 2 (some .int) ∈ q_Ws := List.mem_filter.mpr ⟨List.mem_of_getElem? (i := 670) (by decide +kernel), by decide +kernel⟩
theorem q_w6 : Cond.static Lib.Math.min.name ∈ q_Ws := List.mem_filter.mpr ⟨List.mem_of_getElem? (i := 666) (by decide +kernel), by decide +kernel⟩
theorem q_w7 : Cond.code Lib.Math.min.name Lib.Math.min.code 2 (some .int) ∈ q_Ws := List.mem_filter.mpr ⟨List.mem_of_getElem? (i := 667) (by decide +kernel), by decide +kernel⟩
theorem q_w8 : Cond.instanceMethod Lib.objectInit ∈ q_Ws := List.mem_filter.mpr ⟨List.mem_of_getElem? (i := 162) (by decide +kernel), by decide +kernel⟩
theorem q_w9 : Cond.code Lib.objectInit ⟨#[0xb1]⟩ 1 none ∈ q_Ws := List.mem_filter.mpr ⟨List.mem_of_getElem? (i := 163) (by decide +kernel), by decide +kernel⟩
section SOUND5
variable {X : qX} {l : Launch} {M : qM} {y : MethodName} {bytes : ByteArray} {ret : Option FieldType} {p : Program} {e : Env} {R : Room} {s : State} {m : MethodId} {args : Array Value} {below : List Frame} {meth : Method} {c : Code} {d : Nat} {h0 h' : qH} {o : qO}
variable {pc : Nat} {L st : List Value} {h : qH} {k : qK} {H : Heap} {locs : List Loc} {ls : Array Slot} {rest : List Value} {Q : State → Prop} {cells slots : Nat}
theorem so_ldcwS {T : State} (X : Stand p l e R s m args below meth c T locs cells slots) (hexec : p.tables.exec = Jvm.exec) {own text : String} {index : Nat} {a : Addr} (hown : s.vm.findClass own = some m.cls)
    (hconst : (Cond.stringRef own index text).before args s = true) (hev : (Term.string own index).eval args s none [] s = some (.ref a)) {g : JFrame} (hg : g.method = m) (hdg : decode c.code g.pc = .ok (.ldc_w index, 3)) :
    ∀ target, Steps p.tables e below (T.setTop { g with pc := g.pc + 3, stack := .ref a :: g.stack }) target → Steps p.tables e below (T.setTop g) target := by
  obtain ⟨k, cf, i, a', hk, hcf, hcp, -, hr, hev'⟩ := Cond.stringRef_spec hown hconst
  cases hev.symm.trans hev'
  obtain ⟨k', hk', he⟩ := X.warmed.alike.2.2 _ _ hk
  have hr' : k'.resolved[index]? = some (some (.string a)) := by
    rcases X.warmed.entry hk hk' index with h | ⟨h, -⟩
    · rw [h]; exact hr
    · rw [hr] at h; cases h
  intro target hrest
  subst hg
  jvm_step X.here [hexec, hdg, ldc_w.wp_string (e := e) (s := T) (f := g) X.here.top hk' (by rw [he]; exact hcf) hcp hr']
  exact hrest
theorem so_ldc {j len : Nat} (E : x_E X l M y bytes ret p R s m args meth c d h0 h') (hI : x_I X M.2.2.2.1 s h0 h H locs ls L) (hd : (len = 2 ∧ decode bytes pc = .ok (.ldc j, 2)) ∨ (len = 3 ∧ decode bytes pc = .ok (.ldc_w j, 3))) (q : q_ldc M j pc L st h k len = some (o, h'))
    (kk : ∀ v : Value, k (pc + len) L (v :: st) h = some (o, h') → W p l e R s m args below meth c H locs cells slots Q (F0 m (pc + len) ls (x_cv X v :: st.map (x_cv X)))) : W p l e R s m args below meth c H locs cells slots Q (F0 m pc ls (st.map (x_cv X))) := by
  obtain ⟨hx, hb, hml, hown, hts, hlocks, hr, hG, hR, hC, htr, hsz, hrow, hln, hnm, hlo, hhd, hth⟩ := E
  unfold q_ldc at q
  split at q
  · rename_i v a2 a3 hk
    have hw : (Cond.constant y.cls j (Int32.ofNat v)).before args s = true := x_ws (args := args) (s := s) hts hln hk rfl
    have := kk _ q
    rcases hd with ⟨rfl, hd⟩ | ⟨rfl, hd⟩
    · exact lv_ldc hx hb hown hw hd this
    · exact lv_ldcw hx hb hown hw hd this
  · rename_i i a2 a3 hk
    have hok := hlo _ (q_look hk)
    simp only [q_lkOK, List.any_eq_true, Bool.and_eq_true, decide_eq_true_eq] at hok
    obtain ⟨⟨w, n, tx, i'⟩, hm, ⟨h1, h2⟩, h3⟩ := hok
    dsimp only at h1 h2 h3
    subst h1
    subst h2
    subst h3
    have hZ := hG.2.2.2.2.2.2.2.2.2.2.1 _ hm
    dsimp only at hZ
    have hi : (UInt32.ofNat i').toNat = i' := by
      have : i' < 64 := (by decide : ∀ q ∈ q_sref, q.2.2.2 < 64) _ hm
      simp [UInt32.toNat_ofNat']
      omega
    have hcv : x_cv X (.float (UInt32.ofNat i')) = .ref (X.2.2.2.1 i') := by
      show Value.ref (X.2.2.2.1 (UInt32.ofNat i').toNat) = _
      rw [hi]
    have := kk _ q
    rw [hcv] at this
    rcases hd with ⟨rfl, hd⟩ | ⟨rfl, hd⟩
    · exact va_ldcS hx hb hown hZ hd this
    · intro T hT X0
      obtain ⟨t, a1, b1⟩ := this T hT X0
      exact ⟨t, so_ldcwS X0 hx hown (text := tx) hZ.1 hZ.2 (g := F0 m pc ls (st.map (x_cv X))) rfl (by rw [hb]; exact hd) t a1, b1⟩
  · cases q
theorem so_gst {j a1 a2 a3 : Nat} (E : x_E X l M y bytes ret p R s m args meth c d h0 h') (hI : x_I X M.2.2.2.1 s h0 h H locs ls L) (hd : decode bytes pc = .ok (.getstatic j, 3)) (hk : q_lk M j = some (16, a1, a2, a3))
    (kk : W p l e R s m args below meth c H locs cells slots Q (F0 m (pc + 3) ls (x_cv X (.ref 1) :: rest))) : W p l e R s m args below meth c H locs cells slots Q (F0 m pc ls rest) := by
  obtain ⟨hx, hb, hml, hown, hts, hlocks, hr, hG, hR, hC, htr, hsz, hrow, hln, hnm, hlo, hhd, hth⟩ := E
  obtain ⟨hW, hS, hL, hq⟩ := hI
  have hw : (Cond.fieldLink y.cls j "WinkBank$Law" "PLAIN" "[I").before args s = true := x_ws (args := args) (s := s) hts hln hk rfl
  exact va_gets hx hb hG.2.2.2.2.2.2.1 hS hown hw (fun x hx => hx) hd kk
theorem so_max {j a1 a2 a3 : Nat} {x z : Int32} (E : x_E X l M y bytes ret p R s m args meth c d h0 h') (hI : x_I X M.2.2.2.1 s h0 h H locs ls L) (hd : decode bytes pc = .ok (.invokestatic j, 3)) (hk : q_lk M j = some (7, a1, a2, a3)) (hr8 : (rest.map fun v => v.category).sum ≤ 100) (hc : cells ≤ R.cells) (hs : slots ≤ R.slots)
    (kk : W p l e R s m args below meth c H locs cells slots Q (F0 m (pc + 3) ls (.int (if x < z then z else x) :: rest))) : W p l e R s m args below meth c H locs cells slots Q (F0 m pc ls (.int z :: .int x :: rest)) := by
  obtain ⟨hx, hb, hml, hown, hts, hlocks, hr, hG, hR, hC, htr, hsz, hrow, hln, hnm, hlo, hhd, hth⟩ := E
  obtain ⟨hW, hS, hL, hq⟩ := hI
  have hw : (Cond.methodLink y.cls j Lib.Math.max.name).before args s = true := x_ws (args := args) (s := s) hts hln hk rfl
  exact va_mmax hx hb (hml.trans hL.1.symm) hown hw (hts _ q_w3) (hts _ q_w4) (hts _ q_w5) (by omega) (by omega) hc hs hd kk
theorem so_min {j a1 a2 a3 : Nat} {x z : Int32} (E : x_E X l M y bytes ret p R s m args meth c d h0 h') (hI : x_I X M.2.2.2.1 s h0 h H locs ls L) (hd : decode bytes pc = .ok (.invokestatic j, 3)) (hk : q_lk M j = some (8, a1, a2, a3)) (hr8 : (rest.map fun v => v.category).sum ≤ 100) (hc : cells ≤ R.cells) (hs : slots ≤ R.slots)
    (kk : W p l e R s m args below meth c H locs cells slots Q (F0 m (pc + 3) ls (.int (if z < x then z else x) :: rest))) : W p l e R s m args below meth c H locs cells slots Q (F0 m pc ls (.int z :: .int x :: rest)) := by
  obtain ⟨hx, hb, hml, hown, hts, hlocks, hr, hG, hR, hC, htr, hsz, hrow, hln, hnm, hlo, hhd, hth⟩ := E
  obtain ⟨hW, hS, hL, hq⟩ := hI
  have hw : (Cond.methodLink y.cls j Lib.Math.min.name).before args s = true := x_ws (args := args) (s := s) hts hln hk rfl
  exact va_mmin hx hb (hml.trans hL.1.symm) hown hw (hts _ q_w6) (hts _ q_w4) (hts _ q_w7) (by omega) (by omega) hc hs hd kk
theorem so_oin {j a1 a2 a3 a : Nat} (E : x_E X l M y bytes ret p R s m args meth c d h0 h') (hI : x_I X M.2.2.2.1 s h0 h H locs ls L) (hd : decode bytes pc = .ok (.invokespecial j, 3)) (hk : q_lk M j = some (10, a1, a2, a3)) (hr8 : (rest.map fun v => v.category).sum ≤ 100)
    (kk : W p l e R s m args below meth c H locs cells slots Q (F0 m (pc + 3) ls rest)) : W p l e R s m args below meth c H locs cells slots Q (F0 m pc ls (.ref a :: rest)) := by
  obtain ⟨hx, hb, hml, hown, hts, hlocks, hr, hG, hR, hC, htr, hsz, hrow, hln, hnm, hlo, hhd, hth⟩ := E
  obtain ⟨hW, hS, hL, hq⟩ := hI
  have hw : (Cond.methodLink y.cls j Lib.objectInit).before args s = true := x_ws (args := args) (s := s) hts hln hk rfl
  exact W.objInit hx hb hown hw (hts _ q_w8) (hts _ q_w9) rfl (hL.1.trans hml.symm) rfl hd (by omega) (by show 2 * 0 + _ + 12 ≤ _; omega) kk
theorem so_cpy {j a1 a2 a3 a ns b nd : Nat} {f g : Nat → Int32} {sp dp n : Int32} (E : x_E X l M y bytes ret p R s m args meth c d h0 h') (hI : x_I X M.2.2.2.1 s h0 h H locs ls L) (hd : decode bytes pc = .ok (.invokestatic j, 3)) (hk : q_lk M j = some (9, a1, a2, a3)) (hr8 : (rest.map fun v => v.category).sum ≤ 100)
    (he : h[a]? = some (.inl (0, ns, .inl f))) (hg : h[b]? = some (.inl (0, nd, .inl g))) (hb2 : 2 ≤ b) (h1 : 0 ≤ sp) (h2 : 0 ≤ dp) (h3 : 0 ≤ n) (h4 : sp.toNatClampNeg + n.toNatClampNeg ≤ ns) (h5 : dp.toNatClampNeg + n.toNatClampNeg ≤ nd)
    (kk : ∀ (H1 : Heap) (locs1 : List Loc), x_I X M.2.2.2.1 s h0 (h.set b (.inl (0, nd, .inl (va_cpy f g sp.toNatClampNeg dp.toNatClampNeg n.toNatClampNeg)))) H1 locs1 ls L → W p l e R s m args below meth c H1 locs1 cells slots Q (F0 m (pc + 3) ls rest)) : W p l e R s m args below meth c H locs cells slots Q (F0 m pc ls (.int n :: .int dp :: x_cv X (.ref b) :: .int sp :: x_cv X (.ref a) :: rest)) := by
  obtain ⟨hx, hb, hml, hown, hts, hlocks, hr, hG, hR, hC, htr, hsz, hrow, hln, hnm, hlo, hhd, hth⟩ := E
  obtain ⟨hW, hS, hL, hq⟩ := hI
  have hw : (Cond.methodLink y.cls j arraycopyName).before args s = true := x_ws (args := args) (s := s) hts hln hk rfl
  have hX : va_T .int (x_ad X a) ns (fun j => .int (f j)) (fun _ => False) s H := by
    by_cases ha : 2 ≤ a
    · exact xX_of (ty := .int) (t0 := 0) hG.1 (x_at hW ha he) rfl
    · obtain ⟨-, g1, g2⟩ := x_out hG hW ha he
      exact (g1.kept hS.2.1).narrow (fun q f => f.elim)
  have hnf : nativeFrameWords "java/lang/System" "arraycopy" 5 ≤ 100 := by decide
  have hl1 : (rest.map fun v => v.category).sum + (nativeFrameWords "java/lang/System" "arraycopy" 5 + 11) ≤ R.locals := by omega
  have hf1 : 1 ≤ R.frames := by omega
  exact xr_copy hx hb (hml.trans hL.1.symm) hown hw (hts _ q_w0) (hts _ q_w1) (hts _ q_w2) hG.1 (x_adA hb2) hS hX 0 (x_at hW hb2 hg) rfl (Int32.not_lt.mpr h1) (Int32.not_lt.mpr h2) (Int32.not_lt.mpr h3) h4 h5 hf1 hl1 hd fun H1 locs1 z oq hat hS1 => kk H1 locs1 ⟨x_upd hW hb2 hg z oq hat, hS1, hL, hq.tr (q_le_set hg rfl)⟩
end SOUND5
