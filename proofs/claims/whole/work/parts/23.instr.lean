/-! One instruction of the small machine is one of the machine. -/
def x_SL (X : qX) (l : Launch) : Prop := ∀ (M : qM) (y : MethodName) (bytes : ByteArray) (ret : Option FieldType) (p : Program) (e : Env) (R : Room) (s : State) (m : MethodId) (args : Array Value) (below : List Frame) (meth : Method) (c : Code) (d : Nat) (h0 h' : qH) (pc : Nat) (L : List Value) (h : qH) (H : Heap) (locs : List Loc) (ls : Array Slot) (cells slots : Nat) (Q : State → Prop) (rest : List Value) (j a1 a2 a3 : Nat) (i : UInt32) (t : List Nat),
  x_E X l M y bytes ret p R s m args meth c d h0 h' → x_I X M.2.2.2.1 s h0 h H locs ls L → decode bytes pc = .ok (.invokevirtual j, 3) → q_lk M j = some (5, a1, a2, a3) → q_strs[i.toNat]? = some t → (rest.map fun v => v.category).sum ≤ 8 → cells ≤ R.cells → slots ≤ R.slots → W p l e R s m args below meth c H locs cells slots Q (F0 m (pc + 3) ls (.int (Int32.ofNat t.length) :: rest)) → W p l e R s m args below meth c H locs cells slots Q (F0 m pc ls (x_cv X (.float i) :: rest))
def x_SC (X : qX) (l : Launch) : Prop := ∀ (M : qM) (y : MethodName) (bytes : ByteArray) (ret : Option FieldType) (p : Program) (e : Env) (R : Room) (s : State) (m : MethodId) (args : Array Value) (below : List Frame) (meth : Method) (c : Code) (d : Nat) (h0 h' : qH) (pc : Nat) (L : List Value) (h : qH) (H : Heap) (locs : List Loc) (ls : Array Slot) (cells slots : Nat) (Q : State → Prop) (rest : List Value) (j a1 a2 a3 : Nat) (i : UInt32) (t : List Nat) (z : Int32),
  x_E X l M y bytes ret p R s m args meth c d h0 h' → x_I X M.2.2.2.1 s h0 h H locs ls L → decode bytes pc = .ok (.invokevirtual j, 3) → q_lk M j = some (6, a1, a2, a3) → q_strs[i.toNat]? = some t → q_in z t.length = true → (rest.map fun v => v.category).sum ≤ 8 → cells ≤ R.cells → slots ≤ R.slots → W p l e R s m args below meth c H locs cells slots Q (F0 m (pc + 3) ls (.int (Int32.ofNat (t.getD z.toNatClampNeg 0)) :: rest)) → W p l e R s m args below meth c H locs cells slots Q (F0 m pc ls (.int z :: x_cv X (.float i) :: rest))
theorem iv_getf {M : qM} {i pc : Nat} {L st : List Value} {h : qH} {k : qK} {o : qO × qH} (q : q_getf M i pc L st h k = some o) : ∃ kd ci f t r a fs x, (kd = 0 ∨ kd = 1) ∧ q_lk M i = some (kd, ci, f, t) ∧ st = .ref a :: r ∧ h[a]? = some (.inr (ci, fs)) ∧ fs[f]? = some x ∧ k (pc + 3) L (x :: r) h = some o := by
  unfold q_getf at q
  split at q
  · obtain ⟨a, fs, x, rfl, he, hf, qk⟩ := iv_gI q
    exact ⟨_, _, _, _, _, a, fs, _, Or.inl rfl, by assumption, rfl, he, hf, qk⟩
  · obtain ⟨a, fs, x, rfl, he, hf, qk⟩ := iv_gR q
    exact ⟨_, _, _, _, _, a, fs, _, Or.inl rfl, by assumption, rfl, he, hf, qk⟩
  · obtain ⟨a, fs, x, rfl, he, hf, ⟨rfl, qk⟩ | ⟨b, rfl, qk⟩⟩ := iv_gN q
    · exact ⟨_, _, _, _, _, a, fs, _, Or.inl rfl, by assumption, rfl, he, hf, qk⟩
    · exact ⟨_, _, _, _, _, a, fs, _, Or.inl rfl, by assumption, rfl, he, hf, qk⟩
  · obtain ⟨a, fs, x, rfl, he, hf, qk⟩ := iv_gI q
    exact ⟨_, _, _, _, _, a, fs, _, Or.inr rfl, by assumption, rfl, he, hf, qk⟩
  · obtain ⟨a, fs, x, rfl, he, hf, qk⟩ := iv_gR q
    exact ⟨_, _, _, _, _, a, fs, _, Or.inr rfl, by assumption, rfl, he, hf, qk⟩
  · obtain ⟨a, fs, x, rfl, he, hf, ⟨rfl, qk⟩ | ⟨b, rfl, qk⟩⟩ := iv_gN q
    · exact ⟨_, _, _, _, _, a, fs, _, Or.inr rfl, by assumption, rfl, he, hf, qk⟩
    · exact ⟨_, _, _, _, _, a, fs, _, Or.inr rfl, by assumption, rfl, he, hf, qk⟩
  · cases q
theorem iv_putf {M : qM} {i pc : Nat} {L st : List Value} {h : qH} {k : qK} {o : qO × qH} (q : q_putf M i pc L st h k = some o) : ∃ kd ci f t w r a fs, (kd = 0 ∨ kd = 1) ∧ q_lk M i = some (kd, ci, f, t) ∧ st = w :: .ref a :: r ∧ ((t = 1 ∧ ∃ x, w = .int x) ∨ ((t = 0 ∨ t = 2) ∧ (w = .null ∨ ∃ b, w = .ref b))) ∧ h[a]? = some (.inr (ci, fs)) ∧ f < fs.length ∧ k (pc + 3) L r (h.set a (.inr (ci, fs.set f w))) = some o := by
  unfold q_putf at q
  split at q
  · obtain ⟨a, fs, rfl, he, -, hf, qk⟩ := iv_pV q
    exact ⟨_, _, _, _, _, _, a, fs, Or.inl rfl, by assumption, rfl, Or.inl ⟨rfl, _, rfl⟩, he, hf, qk⟩
  · obtain ⟨a, fs, rfl, he, -, hf, qk⟩ := iv_pV q
    exact ⟨_, _, _, _, _, _, a, fs, Or.inl rfl, by assumption, rfl, Or.inr ⟨Or.inr rfl, Or.inr ⟨_, rfl⟩⟩, he, hf, qk⟩
  · obtain ⟨a, fs, rfl, he, -, hf, qk⟩ := iv_pV q
    exact ⟨_, _, _, _, _, _, a, fs, Or.inl rfl, by assumption, rfl, Or.inr ⟨Or.inl rfl, Or.inr ⟨_, rfl⟩⟩, he, hf, qk⟩
  · obtain ⟨a, fs, rfl, he, -, hf, qk⟩ := iv_pV q
    exact ⟨_, _, _, _, _, _, a, fs, Or.inl rfl, by assumption, rfl, Or.inr ⟨Or.inl rfl, Or.inl rfl⟩, he, hf, qk⟩
  · obtain ⟨a, fs, rfl, he, -, hf, qk⟩ := iv_pV q
    exact ⟨_, _, _, _, _, _, a, fs, Or.inr rfl, by assumption, rfl, Or.inl ⟨rfl, _, rfl⟩, he, hf, qk⟩
  · cases q
section SOUND9
variable {X : qX} {l : Launch} {M : qM} {y : MethodName} {bytes : ByteArray} {ret : Option FieldType} {p : Program} {e : Env} {R : Room} {s : State} {m : MethodId} {args : Array Value} {below : List Frame} {meth : Method} {c : Code} {d : Nat} {h0 h' : qH} {o : qO}
variable {pc : Nat} {L st : List Value} {h : qH} {k : qK}
theorem so_ei {i : Instr} {len : Nat} (hM : ∀ mi, x_M X l d mi) (hA : q_mAll) (hSL : x_SL X l) (hSC : x_SC X l) (E : x_E X l M y bytes ret p R s m args meth c d h0 h') (hlk : M.1.lookup pc = some (i, len)) (hkk : ∀ pc L st h, k pc L st h = some (o, h') → x_Go X l M p e R s m args below meth c h0 h' o pc L st h) (hgr : ∀ pc L st h1 r, k pc L st h1 = some r → q_le h1 r.2) (q : q_ei M (q_call q_MT d) i len pc L st h k = some (o, h')) :
    x_Go X l M p e R s m args below meth c h0 h' o pc L st h := by
  have hgrow : q_le h h' := gr_ei hgr (gr_call q_MT d) q
  obtain ⟨hx, hb, hml, hown, hts, hlocks, hr, hG, hR, hC, htr, hsz, hrow, hln, hnm, hlo, hhd, hth⟩ := id E
  obtain ⟨hd, hiln, hicd⟩ := hrow _ (q_look hlk)
  dsimp only at hd hiln hicd
  intro H locs ls hI
  have hfit : h.length - h0.length ≤ R.cells ∧ q_sz h - q_sz h0 ≤ R.slots := by
    have a1 := hgrow.1
    have a2 := hgrow.2
    omega
  have hL := hI.2.2.1
  cases i <;> try (exact absurd (show (none : qR) = some (o, h') from q) (fun q => nomatch q))
  case aload_n n =>
    have hl1 : len = 1 := by simpa [q_iln] using hiln
    subst hl1
    obtain ⟨v, hv, qk, hvv⟩ := iv_rdl q
    obtain ⟨c1, c2⟩ := x_cvr (X := X) hvv
    exact so_aload hx hb (Or.inl ⟨n, rfl, hd⟩) (hL.2.2.2 _ _ hv c2) c1 (fun _ => hkk _ _ _ _ qk H locs ls hI) (fun h2 => by rw [hd] at h2; cases h2)
  case aload n =>
    have hl1 : len = 2 := by simpa [q_iln] using hiln
    subst hl1
    obtain ⟨v, hv, qk, hvv⟩ := iv_rdl q
    obtain ⟨c1, c2⟩ := x_cvr (X := X) hvv
    exact so_aload hx hb (Or.inr hd) (hL.2.2.2 _ _ hv c2) c1 (fun h2 => by obtain ⟨n2, -, h2⟩ := h2; rw [hd] at h2; cases h2) (fun _ => hkk _ _ _ _ qk H locs ls hI)
  case iconst n =>
    have hl1 : len = 1 := by simpa [q_iln] using hiln
    subst hl1
    exact lv_iconst hx hb hd rfl (hkk _ _ _ _ q H locs ls hI)
  case iload_n n =>
    have hl1 : len = 1 := by simpa [q_iln] using hiln
    subst hl1
    obtain ⟨x, hv, qk⟩ := so_ild hkk q
    exact lv_iload_n hx hb hd rfl (hL.2.2.2 _ _ hv rfl) (hkk _ _ _ _ qk H locs ls hI)
  case iload n =>
    have hl1 : len = 2 := by simpa [q_iln] using hiln
    subst hl1
    obtain ⟨x, hv, qk⟩ := so_ild hkk q
    exact lv_iload hx hb hd (hL.2.2.2 _ _ hv rfl) (hkk _ _ _ _ qk H locs ls hI)
  case getfield j =>
    have hl1 : len = 3 := by simpa [q_iln] using hiln
    subst hl1
    obtain ⟨kd, ci, f, t, r, a, fs, x, hkd, hk0, rfl, he, hf, qk⟩ := iv_getf q
    exact so_getV E hI hd hk0 hkd he hf (hkk _ _ _ _ qk H locs ls hI)
  case putfield j =>
    have hl1 : len = 3 := by simpa [q_iln] using hiln
    subst hl1
    obtain ⟨kd, ci, f, t, w, r, a, fs, hkd, hk0, rfl, hw, he, hf, qk⟩ := iv_putf q
    refine so_putV (v := w) E hI hlk hk0 hkd he hf hw fun H1 locs1 hI1 => ?_
    have := hkk _ _ _ _ qk H1 locs1 ls hI1
    rw [List.length_set, q_sz_set he q_se_set] at this
    exact this
  case invokevirtual j =>
    have hl1 : len = 3 := by simpa [q_iln] using hiln
    subst hl1
    replace q : q_virt M (q_call q_MT d) j pc L st h k = some (o, h') := q
    unfold q_virt at q
    split at q
    · rename_i mi n ct hk0
      split at q
      · rename_i v as hst
        split at q
        · rename_i hn
          obtain ⟨a, fs, rfl, he, qk⟩ := iv_obj q
          cases hc : q_call q_MT d mi (.ref a :: as) h with
          | none =>
            rw [hc] at qk
            rcases iv_back qk with ⟨v, h2, i1, -⟩ | ⟨E1, q1, h2, i1, -⟩ <;> cases i1
          | some r =>
            obtain ⟨o1, h1⟩ := r
            rw [hc] at qk
            have hg1 : q_le h1 h' := by
              have := gr_back (h := h1) hgr (fun r hr => by cases hr; exact q_le.rf) qk
              exact this
            exact so_virt hM hA E hI hd hk0 hst hn.1 hn.2 he hc hg1 hkk qk
        · cases q
      · cases q
    · rename_i a1 a2 a3 hk0
      split at q
      · rename_i v r
        split at q
        · rename_i h8
          unfold q_slen at q
          split at q
          · rename_i i
            split at q
            · rename_i t ht
              exact hSL _ _ _ _ _ _ _ _ _ _ _ _ _ _ _ _ _ _ _ _ _ _ _ _ _ _ _ _ _ _ _ _ E hI hd hk0 ht (x_catm h8) hfit.1 hfit.2 (hkk _ _ _ _ q H locs ls hI)
            · cases q
          · cases q
        · cases q
      · cases q
    · rename_i a1 a2 a3 hk0
      split at q
      · rename_i z v r
        split at q
        · rename_i h8
          unfold q_schr at q
          split at q
          · rename_i i
            split at q
            · rename_i t ht
              split at q
              · rename_i hin
                exact hSC _ _ _ _ _ _ _ _ _ _ _ _ _ _ _ _ _ _ _ _ _ _ _ _ _ _ _ _ _ _ _ _ _ E hI hd hk0 ht hin (x_catm h8) hfit.1 hfit.2 (hkk _ _ _ _ q H locs ls hI)
              · cases q
            · cases q
          · cases q
        · cases q
      · cases q
    · cases q
  case invokestatic j =>
    have hl1 : len = 3 := by simpa [q_iln] using hiln
    subst hl1
    replace q : q_stat M (q_call q_MT d) j pc L st h k = some (o, h') := q
    unfold q_stat at q
    split at q
    · rename_i mi n ct hk0
      split at q
      · rename_i hn
        cases hc : q_call q_MT d mi (st.take n).reverse h with
        | none =>
          rw [hc] at q
          rcases iv_back q with ⟨v, h2, i1, -⟩ | ⟨E1, q1, h2, i1, -⟩ <;> cases i1
        | some r =>
          obtain ⟨o1, h1⟩ := r
          rw [hc] at q
          have hg1 : q_le h1 h' := gr_back (h := h1) hgr (fun r hr => by cases hr; exact q_le.rf) q
          exact so_static hM hA E hI hd hk0 hn.1 hn.2 hc hg1 hkk q
      · cases q
    · rename_i a1 a2 a3 hk0
      split at q
      · rename_i z x r
        split at q
        · rename_i h8
          have := x_catm (X := X) h8
          exact so_max E hI hd hk0 (by omega) hfit.1 hfit.2 (hkk _ _ _ _ q H locs ls hI)
        · cases q
      · cases q
    · rename_i a1 a2 a3 hk0
      split at q
      · rename_i z x r
        split at q
        · rename_i h8
          have := x_catm (X := X) h8
          exact so_min E hI hd hk0 (by omega) hfit.1 hfit.2 (hkk _ _ _ _ q H locs ls hI)
        · cases q
      · cases q
    · rename_i a1 a2 a3 hk0
      split at q
      · rename_i n dp dv sp sv r
        split at q
        · rename_i h8
          obtain ⟨a, ns, f, b, nd, g, rfl, he, rfl, hg, hne, hb2, g1, g2, g3, g4, g5, qk⟩ := iv_cpy q
          have h8' := x_catm (X := X) h8
          refine so_cpy E hI hd hk0 (by omega) he hg hb2 g1 g2 g3 g4 g5 fun H1 locs1 hI1 => ?_
          have := hkk _ _ _ _ qk H1 locs1 ls hI1
          rw [List.length_set, q_sz_set hg (by rfl)] at this
          exact this
        · cases q
      · cases q
    · cases q
  case invokespecial j =>
    have hl1 : len = 3 := by simpa [q_iln] using hiln
    subst hl1
    replace q : q_spec M (q_call q_MT d) j pc L st h k = some (o, h') := q
    unfold q_spec at q
    split at q
    · rename_i mi n ci hk0
      split at q
      · rename_i v as hst
        split at q
        · rename_i hn
          obtain ⟨a, fs, rfl, he, qk⟩ := iv_obj q
          rcases iv_rV qk with ⟨h1, hc, qk⟩ | ⟨E1, q1, h1, hc, qk⟩
          · exact so_init hM hA E hI hd hk0 (Or.inl rfl) hst hn.1 hn.2 he hc (hgr _ _ _ _ _ qk) (hkk _ _ _ _ qk)
          · cases qk
        · cases q
      · cases q
    · rename_i a1 a2 a3 hk0
      split at q
      · rename_i a r
        split at q
        · rename_i h8
          have := x_catm (X := X) h8
          exact so_oin E hI hd hk0 (by omega) (hkk _ _ _ _ q H locs ls hI)
        · cases q
      · cases q
    · rename_i mi n ci hk0
      split at q
      · rename_i v as hst
        split at q
        · rename_i hn
          obtain ⟨a, fs, rfl, he, qk⟩ := iv_obj q
          rcases iv_rV qk with ⟨h1, hc, qk⟩ | ⟨E1, q1, h1, hc, qk⟩
          · exact so_init hM hA E hI hd hk0 (Or.inr rfl) hst hn.1 hn.2 he hc (hgr _ _ _ _ _ qk) (hkk _ _ _ _ qk)
          · cases qk
        · cases q
      · cases q
    · cases q
  case new j =>
    have hl1 : len = 3 := by simpa [q_iln] using hiln
    subst hl1
    replace q : q_new M j pc L st h k = some (o, h') := q
    unfold q_new at q
    split at q
    · rename_i ci a2 a3 hk0
      split at q
      · rename_i fs hf
        exact so_new E hI hd hk0 hf (hgr _ _ _ _ _ q) (hkk _ _ _ _ q)
      · cases q
    · rename_i E0 a2 a3 hk0
      split at q
      · rename_i hh
        split at q
        · rename_i h8
          cases q
          exact so_throw E hI hlk hk0 hh h8 rfl rfl
        · cases q
      · cases q
    · cases q
  case ldc j =>
    have hl1 : len = 2 := by simpa [q_iln] using hiln
    subst hl1
    exact so_ldc E hI (Or.inl ⟨rfl, hd⟩) q fun v qk => hkk _ _ _ _ qk H locs ls hI
  case ldc_w j =>
    have hl1 : len = 3 := by simpa [q_iln] using hiln
    subst hl1
    exact so_ldc E hI (Or.inr ⟨rfl, hd⟩) q fun v qk => hkk _ _ _ _ qk H locs ls hI
  case getstatic j =>
    have hl1 : len = 3 := by simpa [q_iln] using hiln
    subst hl1
    simp only [q_ei] at q
    split at q
    · rename_i a1 a2 a3 hk0
      exact so_gst E hI hd hk0 (hkk _ _ _ _ q H locs ls hI)
    · cases q
  case iadd =>
    have hl1 : len = 1 := by simpa [q_iln] using hiln
    subst hl1
    obtain ⟨x, z, r, rfl, qk⟩ := iv_two q
    exact lv_iadd hx hb hd (hkk _ _ _ _ qk H locs ls hI)
  case isub =>
    have hl1 : len = 1 := by simpa [q_iln] using hiln
    subst hl1
    obtain ⟨x, z, r, rfl, qk⟩ := iv_two q
    exact lv_isub hx hb hd (hkk _ _ _ _ qk H locs ls hI)
  case imul =>
    have hl1 : len = 1 := by simpa [q_iln] using hiln
    subst hl1
    obtain ⟨x, z, r, rfl, qk⟩ := iv_two q
    exact lv_imul hx hb hd (hkk _ _ _ _ qk H locs ls hI)
  case iand =>
    have hl1 : len = 1 := by simpa [q_iln] using hiln
    subst hl1
    obtain ⟨x, z, r, rfl, qk⟩ := iv_two q
    exact lv_iand hx hb hd (hkk _ _ _ _ qk H locs ls hI)
  case ior =>
    have hl1 : len = 1 := by simpa [q_iln] using hiln
    subst hl1
    obtain ⟨x, z, r, rfl, qk⟩ := iv_two q
    exact lv_ior hx hb hd (hkk _ _ _ _ qk H locs ls hI)
  case ixor =>
    have hl1 : len = 1 := by simpa [q_iln] using hiln
    subst hl1
    obtain ⟨x, z, r, rfl, qk⟩ := iv_two q
    exact lv_ixor hx hb hd (hkk _ _ _ _ qk H locs ls hI)
  case ishl =>
    have hl1 : len = 1 := by simpa [q_iln] using hiln
    subst hl1
    obtain ⟨x, z, r, rfl, qk⟩ := iv_two q
    exact lv_ishl hx hb hd (hkk _ _ _ _ qk H locs ls hI)
  case ishr =>
    have hl1 : len = 1 := by simpa [q_iln] using hiln
    subst hl1
    obtain ⟨x, z, r, rfl, qk⟩ := iv_two q
    exact lv_ishr hx hb hd (hkk _ _ _ _ qk H locs ls hI)
  case iushr =>
    have hl1 : len = 1 := by simpa [q_iln] using hiln
    subst hl1
    obtain ⟨x, z, r, rfl, qk⟩ := iv_two q
    exact lv_iushr hx hb hd rfl (hkk _ _ _ _ qk H locs ls hI)
  case idiv =>
    have hl1 : len = 1 := by simpa [q_iln] using hiln
    subst hl1
    obtain ⟨x, z, r, rfl, hz, qk⟩ := iv_div q
    exact lv_idiv hx hb hd hz (hkk _ _ _ _ qk H locs ls hI)
  case irem =>
    have hl1 : len = 1 := by simpa [q_iln] using hiln
    subst hl1
    obtain ⟨x, z, r, rfl, hz, qk⟩ := iv_div q
    exact lv_irem hx hb hd hz (hkk _ _ _ _ qk H locs ls hI)
  case ineg =>
    have hl1 : len = 1 := by simpa [q_iln] using hiln
    subst hl1
    obtain ⟨x, r, rfl, qk⟩ := iv_one q
    exact lv_ineg hx hb hd (hkk _ _ _ _ qk H locs ls hI)
  case i2c =>
    have hl1 : len = 1 := by simpa [q_iln] using hiln
    subst hl1
    obtain ⟨x, r, rfl, qk⟩ := iv_one q
    exact lv_i2c hx hb hd rfl (hkk _ _ _ _ qk H locs ls hI)
  case i2b =>
    have hl1 : len = 1 := by simpa [q_iln] using hiln
    subst hl1
    obtain ⟨x, r, rfl, qk⟩ := iv_one q
    exact lv_i2b hx hb hd rfl (hkk _ _ _ _ qk H locs ls hI)
  case i2l =>
    have hl1 : len = 1 := by simpa [q_iln] using hiln
    subst hl1
    simp only [q_ei] at q
    split at q
    · exact lv_i2l hx hb hd rfl (hkk _ _ _ _ q H locs ls hI)
    · cases q
  case bipush n =>
    have hl1 : len = 2 := by simpa [q_iln] using hiln
    subst hl1
    exact lv_bipush hx hb hd rfl (hkk _ _ _ _ q H locs ls hI)
  case sipush n =>
    have hl1 : len = 3 := by simpa [q_iln] using hiln
    subst hl1
    exact lv_sipush hx hb hd rfl (hkk _ _ _ _ q H locs ls hI)
  case aconst_null =>
    have hl1 : len = 1 := by simpa [q_iln] using hiln
    subst hl1
    exact lv_null hx hb hd (hkk _ _ _ _ q H locs ls hI)
  case goto off =>
    have hl1 : len = 3 := by simpa [q_iln] using hiln
    subst hl1
    have ht : 0 ≤ (pc : Int) + off := by simpa [q_icd] using hicd
    exact lv_goto hx hb hd (x_tg ht) (hkk _ _ _ _ q H locs ls hI)
  case if_icmp cd off =>
    have hl1 : len = 3 := by simpa [q_iln] using hiln
    subst hl1
    have ht : 0 ≤ (pc : Int) + off := by simpa [q_icd] using hicd
    replace q : q_icm cd off pc L st h k = some (o, h') := q
    unfold q_icm at q
    split at q
    · rename_i z x r
      cases cd
      · refine lv_icmp_eq hx hb hd (x_tg ht) (fun hc => ?_) (fun hc => ?_)
        · rw [if_pos (by simp [q_cmp, hc])] at q; exact hkk _ _ _ _ q H locs ls hI
        · rw [if_neg (by simp [q_cmp, hc])] at q; exact hkk _ _ _ _ q H locs ls hI
      · refine lv_icmp_ne hx hb hd (x_tg ht) (fun hc => ?_) (fun hc => ?_)
        · rw [if_pos (by simp [q_cmp, hc])] at q; exact hkk _ _ _ _ q H locs ls hI
        · rw [if_neg (by simp [q_cmp, hc])] at q; exact hkk _ _ _ _ q H locs ls hI
      · refine lv_icmp_lt hx hb hd (x_tg ht) (fun hc => ?_) (fun hc => ?_)
        · rw [if_pos (by unfold q_cmp; exact decide_eq_true hc)] at q; exact hkk _ _ _ _ q H locs ls hI
        · rw [if_neg (by unfold q_cmp; exact fun w => hc (of_decide_eq_true w))] at q; exact hkk _ _ _ _ q H locs ls hI
      · refine lv_icmp_ge hx hb hd (x_tg ht) (fun hc => ?_) (fun hc => ?_)
        · rw [if_pos (by unfold q_cmp; exact decide_eq_true hc)] at q; exact hkk _ _ _ _ q H locs ls hI
        · rw [if_neg (by unfold q_cmp; exact fun w => hc (of_decide_eq_true w))] at q; exact hkk _ _ _ _ q H locs ls hI
      · refine lv_icmp_gt hx hb hd (x_tg ht) (fun hc => ?_) (fun hc => ?_)
        · rw [if_pos (by unfold q_cmp; exact decide_eq_true hc)] at q; exact hkk _ _ _ _ q H locs ls hI
        · rw [if_neg (by unfold q_cmp; exact fun w => hc (of_decide_eq_true w))] at q; exact hkk _ _ _ _ q H locs ls hI
      · refine lv_icmp_le hx hb hd (x_tg ht) (fun hc => ?_) (fun hc => ?_)
        · rw [if_pos (by unfold q_cmp; exact decide_eq_true hc)] at q; exact hkk _ _ _ _ q H locs ls hI
        · rw [if_neg (by unfold q_cmp; exact fun w => hc (of_decide_eq_true w))] at q; exact hkk _ _ _ _ q H locs ls hI
    · cases q
  case ifCond cd off =>
    have hl1 : len = 3 := by simpa [q_iln] using hiln
    subst hl1
    have ht : 0 ≤ (pc : Int) + off := by simpa [q_icd] using hicd
    replace q : q_ifc cd off pc L st h k = some (o, h') := q
    unfold q_ifc at q
    split at q
    · rename_i x r
      cases cd
      · refine lv_if_eq hx hb hd (x_tg ht) (fun hc => ?_) (fun hc => ?_)
        · rw [if_pos (by simp [q_cmp, hc])] at q; exact hkk _ _ _ _ q H locs ls hI
        · rw [if_neg (by simp [q_cmp, hc])] at q; exact hkk _ _ _ _ q H locs ls hI
      · refine lv_if_ne hx hb hd (x_tg ht) (fun hc => ?_) (fun hc => ?_)
        · rw [if_pos (by simp [q_cmp, hc])] at q; exact hkk _ _ _ _ q H locs ls hI
        · rw [if_neg (by simp [q_cmp, hc])] at q; exact hkk _ _ _ _ q H locs ls hI
      · refine lv_if_lt hx hb hd (x_tg ht) (fun hc => ?_) (fun hc => ?_)
        · rw [if_pos (by unfold q_cmp; exact decide_eq_true hc)] at q; exact hkk _ _ _ _ q H locs ls hI
        · rw [if_neg (by unfold q_cmp; exact fun w => hc (of_decide_eq_true w))] at q; exact hkk _ _ _ _ q H locs ls hI
      · refine lv_if_ge hx hb hd (x_tg ht) (fun hc => ?_) (fun hc => ?_)
        · rw [if_pos (by unfold q_cmp; exact decide_eq_true hc)] at q; exact hkk _ _ _ _ q H locs ls hI
        · rw [if_neg (by unfold q_cmp; exact fun w => hc (of_decide_eq_true w))] at q; exact hkk _ _ _ _ q H locs ls hI
      · refine lv_if_gt hx hb hd (x_tg ht) (fun hc => ?_) (fun hc => ?_)
        · rw [if_pos (by unfold q_cmp; exact decide_eq_true hc)] at q; exact hkk _ _ _ _ q H locs ls hI
        · rw [if_neg (by unfold q_cmp; exact fun w => hc (of_decide_eq_true w))] at q; exact hkk _ _ _ _ q H locs ls hI
      · refine lv_if_le hx hb hd (x_tg ht) (fun hc => ?_) (fun hc => ?_)
        · rw [if_pos (by unfold q_cmp; exact decide_eq_true hc)] at q; exact hkk _ _ _ _ q H locs ls hI
        · rw [if_neg (by unfold q_cmp; exact fun w => hc (of_decide_eq_true w))] at q; exact hkk _ _ _ _ q H locs ls hI
    · cases q
  case ifnull off =>
    have hl1 : len = 3 := by simpa [q_iln] using hiln
    subst hl1
    have ht : 0 ≤ (pc : Int) + off := by simpa [q_icd] using hicd
    replace q : q_nll true off pc L st h k = some (o, h') := q
    unfold q_nll at q
    split at q
    · rename_i v r
      rcases iv_nul q with ⟨rfl, q⟩ | ⟨⟨a, rfl⟩ | ⟨a, rfl⟩, q⟩
      · exact lv_ifnullN hx hb hd (x_tg ht) (hkk _ _ _ _ q H locs ls hI)
      · exact lv_ifnull hx hb hd (hkk _ _ _ _ q H locs ls hI)
      · exact lv_ifnull hx hb hd (hkk _ _ _ _ q H locs ls hI)
    · cases q
  case ifnonnull off =>
    have hl1 : len = 3 := by simpa [q_iln] using hiln
    subst hl1
    have ht : 0 ≤ (pc : Int) + off := by simpa [q_icd] using hicd
    replace q : q_nll false off pc L st h k = some (o, h') := q
    unfold q_nll at q
    split at q
    · rename_i v r
      rcases iv_nul q with ⟨rfl, q⟩ | ⟨⟨a, rfl⟩ | ⟨a, rfl⟩, q⟩
      · exact lv_ifnonnullN hx hb hd (hkk _ _ _ _ q H locs ls hI)
      · exact lv_ifnonnull hx hb hd (x_tg ht) (hkk _ _ _ _ q H locs ls hI)
      · exact lv_ifnonnull hx hb hd (x_tg ht) (hkk _ _ _ _ q H locs ls hI)
    · cases q
  case istore_n n =>
    have hl1 : len = 1 := by simpa [q_iln] using hiln
    subst hl1
    obtain ⟨x, r, rfl, hi, qk⟩ := iv_ist q
    refine lv_istore_n hx hb hd rfl hL.has (by rw [← hL.2.2.1]; exact hi) rfl fun ls' hls' => ?_
    exact hkk _ _ _ _ qk H locs ls' ⟨hI.1, hI.2.1, hL.sto (v := .int x) hls' (fun _ => rfl), hI.2.2.2⟩
  case istore n =>
    have hl1 : len = 2 := by simpa [q_iln] using hiln
    subst hl1
    obtain ⟨x, r, rfl, hi, qk⟩ := iv_ist q
    refine lv_istore hx hb hd hL.has (by rw [← hL.2.2.1]; exact hi) rfl fun ls' hls' => ?_
    exact hkk _ _ _ _ qk H locs ls' ⟨hI.1, hI.2.1, hL.sto (v := .int x) hls' (fun _ => rfl), hI.2.2.2⟩
  case astore_n n =>
    have hl1 : len = 1 := by simpa [q_iln] using hiln
    subst hl1
    obtain ⟨v, r, rfl, hi, qk, ⟨a, rfl⟩ | rfl⟩ := iv_ast1 q
    · refine lv_astore_n hx hb hd rfl hL.has (by rw [← hL.2.2.1]; exact hi) rfl fun ls' hls' => ?_
      exact hkk _ _ _ _ qk H locs ls' ⟨hI.1, hI.2.1, hL.sto (v := .ref a) hls' (fun _ => rfl), hI.2.2.2⟩
    · refine lv_astore_nN hx hb hd rfl hL.has (by rw [← hL.2.2.1]; exact hi) rfl fun ls' hls' => ?_
      exact hkk _ _ _ _ qk H locs ls' ⟨hI.1, hI.2.1, hL.sto (v := .null) hls' (fun _ => rfl), hI.2.2.2⟩
  case astore n =>
    have hl1 : len = 2 := by simpa [q_iln] using hiln
    subst hl1
    obtain ⟨v, r, rfl, hi, qk, ⟨a, rfl⟩ | rfl⟩ := iv_ast1 q
    · refine lv_astore hx hb hd hL.has (by rw [← hL.2.2.1]; exact hi) rfl fun ls' hls' => ?_
      exact hkk _ _ _ _ qk H locs ls' ⟨hI.1, hI.2.1, hL.sto (v := .ref a) hls' (fun _ => rfl), hI.2.2.2⟩
    · refine lv_astoreN hx hb hd hL.has (by rw [← hL.2.2.1]; exact hi) rfl fun ls' hls' => ?_
      exact hkk _ _ _ _ qk H locs ls' ⟨hI.1, hI.2.1, hL.sto (v := .null) hls' (fun _ => rfl), hI.2.2.2⟩
  case iinc n z =>
    have hl1 : len = 3 := by simpa [q_iln] using hiln
    subst hl1
    replace q : q_iinc n z pc L st h k = some (o, h') := q
    unfold q_iinc at q
    split at q
    · rename_i x hx0
      have hin := x_lv_in (X := X) hx0 rfl
      obtain ⟨kk0, hkk0⟩ := List.getElem?_of_mem hin
      refine lv_iinc hx hb hd hL.has (k := kk0) hkk0 rfl (by rw [← hL.2.2.1]; exact (List.getElem?_eq_some_iff.mp hx0).1) rfl fun ls' hls' => ?_
      exact hkk _ _ _ _ q H locs ls' ⟨hI.1, hI.2.1, hL.sto (v := .int (x + Int32.ofInt z)) hls' (fun _ => rfl), hI.2.2.2⟩
    · cases q
  case iaload =>
    have hl1 : len = 1 := by simpa [q_iln] using hiln
    subst hl1
    simp only [q_ei] at q
    split at q
    · obtain ⟨a, n, f, rfl, he, hin, qk⟩ := iv_ald q
      exact so_iald E hI hd he hin (hkk _ _ _ _ qk H locs ls hI)
    · cases q
  case baload =>
    have hl1 : len = 1 := by simpa [q_iln] using hiln
    subst hl1
    simp only [q_ei] at q
    split at q
    · obtain ⟨a, t, n, f, rfl, he, ht, hin, qk⟩ := iv_bld q
      exact so_bald E hI hd he ht hin (hkk _ _ _ _ qk H locs ls hI)
    · cases q
  case laload =>
    have hl1 : len = 1 := by simpa [q_iln] using hiln
    subst hl1
    simp only [q_ei] at q
    split at q
    · obtain ⟨a, n, f, rfl, he, hin, qk⟩ := iv_lld q
      exact so_lald E hI hd he hin (hkk _ _ _ _ qk H locs ls hI)
    · cases q
  case aaload =>
    have hl1 : len = 1 := by simpa [q_iln] using hiln
    subst hl1
    simp only [q_ei] at q
    split at q
    · obtain ⟨a, n, f, rfl, he, hin, hf⟩ := iv_rld q
      refine so_rald E hI hd he hin ?_
      rcases hf with ⟨hf, qk⟩ | ⟨b, hf, qk⟩
      · rw [hf]
        exact hkk _ _ _ _ qk H locs ls hI
      · rw [hf]
        exact hkk _ _ _ _ qk H locs ls hI
    · cases q
  case arraylength =>
    have hl1 : len = 1 := by simpa [q_iln] using hiln
    subst hl1
    simp only [q_ei] at q
    split at q
    · obtain ⟨a, t, x, rfl, he, ht, qk⟩ := iv_len q
      exact so_alen E hI hd he ht (hkk _ _ _ _ qk H locs ls hI)
    · cases q
  case iastore =>
    have hl1 : len = 1 := by simpa [q_iln] using hiln
    subst hl1
    simp only [q_ei] at q
    split at q
    · obtain ⟨a, n, f, rfl, he, ha, hin, qk⟩ := iv_ast q
      refine so_iast E hI hd he ha hin fun H1 locs1 hI1 => ?_
      have := hkk _ _ _ _ qk H1 locs1 ls hI1
      rw [List.length_set, q_sz_set he (by rfl)] at this
      exact this
    · cases q
  case bastore =>
    have hl1 : len = 1 := by simpa [q_iln] using hiln
    subst hl1
    simp only [q_ei] at q
    split at q
    · obtain ⟨a, t, n, f, rfl, he, ha, ht, hin, qk⟩ := iv_bst q
      refine so_bast E hI hd he ha ht hin fun H1 locs1 hI1 => ?_
      have := hkk _ _ _ _ qk H1 locs1 ls hI1
      rw [List.length_set, q_sz_set he (by rfl)] at this
      exact this
    · cases q
  case lastore =>
    have hl1 : len = 1 := by simpa [q_iln] using hiln
    subst hl1
    simp only [q_ei] at q
    split at q
    · obtain ⟨a, n, f, rfl, he, ha, hin, qk⟩ := iv_lst q
      refine so_last E hI hd he ha hin fun H1 locs1 hI1 => ?_
      have := hkk _ _ _ _ qk H1 locs1 ls hI1
      rw [List.length_set, q_sz_set he (by rfl)] at this
      exact this
    · cases q
  case aastore =>
    have hl1 : len = 1 := by simpa [q_iln] using hiln
    subst hl1
    simp only [q_ei] at q
    split at q
    · obtain ⟨a, b, n, f, fs, rfl, rfl, he, ha, hin, hb2, qk⟩ := iv_rst q
      refine so_rast E hI hd he ha hin hb2 fun H1 locs1 hI1 => ?_
      have := hkk _ _ _ _ qk H1 locs1 ls hI1
      rw [List.length_set, q_sz_set he (by rfl)] at this
      exact this
    · cases q
  case newarray at0 =>
    have hl1 : len = 2 := by simpa [q_iln] using hiln
    subst hl1
    simp only [q_ei] at q
    split at q
    · split at q
      · cases q
      · rename_i h9
        obtain ⟨g1, g2, qk⟩ := iv_nar q
        exact so_nar E hI hd rfl h9 g1 g2 (hgr _ _ _ _ _ qk) (hkk _ _ _ _ qk)
    · cases q
  case anewarray j =>
    have hl1 : len = 3 := by simpa [q_iln] using hiln
    subst hl1
    simp only [q_ei] at q
    split at q
    · obtain ⟨g1, g2, qk⟩ := iv_nar q
      exact so_anr E hI hd (by assumption) g1 g2 (hgr _ _ _ _ _ qk) (hkk _ _ _ _ qk)
    · cases q
  case dup =>
    have hl1 : len = 1 := by simpa [q_iln] using hiln
    subst hl1
    simp only [q_ei] at q
    split at q
    · split at q
      · rename_i hc
        exact lv_dup hx hb hd (x_cat.trans hc) (hkk _ _ _ _ q H locs ls hI)
      · cases q
    · cases q
  case dup2 =>
    have hl1 : len = 1 := by simpa [q_iln] using hiln
    subst hl1
    simp only [q_ei] at q
    split at q
    · split at q
      · rename_i hc
        exact lv_dup2_11 hx hb hd (x_cat.trans hc.1) (x_cat.trans hc.2) (hkk _ _ _ _ q H locs ls hI)
      · cases q
    · cases q
  case pop =>
    have hl1 : len = 1 := by simpa [q_iln] using hiln
    subst hl1
    simp only [q_ei] at q
    split at q
    · split at q
      · rename_i hc
        exact lv_pop hx hb hd (x_cat.trans hc) (hkk _ _ _ _ q H locs ls hI)
      · cases q
    · cases q
  case lcmp =>
    have hl1 : len = 1 := by simpa [q_iln] using hiln
    subst hl1
    simp only [q_ei, q_lcp] at q
    split at q
    · exact W.lcmp hx hb hd (hkk _ _ _ _ q H locs ls hI)
    · cases q
  case tableswitch df lo hi os =>
    have hic : 0 ≤ (pc : Int) + df ∧ ∀ o ∈ os.toList, 0 ≤ (pc : Int) + o := by
      simp only [q_icd, Bool.and_eq_true, decide_eq_true_eq, List.all_eq_true] at hicd
      exact hicd
    simp only [q_ei, q_tsw] at q
    split at q
    · split at q
      · rename_i hc
        exact lv_tableOut hx hb hd hc (x_tg hic.1) (hkk _ _ _ _ q H locs ls hI)
      · rename_i hc
        split at q
        · rename_i ofs ho
          refine lv_tableIn hx hb hd (fun w => hc (Or.inl w)) (fun w => hc (Or.inr w)) (by rw [← Array.getElem?_toList]; exact ho) (x_tg (hic.2 _ (List.mem_of_getElem? ho))) (hkk _ _ _ _ q H locs ls hI)
        · cases q
    · cases q
  case lookupswitch df ps =>
    have hic : (0 ≤ (pc : Int) + df ∧ ∀ q ∈ ps.toList, 0 ≤ (pc : Int) + q.2) ∧ (ps.toList.zip (ps.toList.drop 1)).all (fun q => decide (q.1.1 < q.2.1)) = true := by
      simp only [q_icd, Bool.and_eq_true, decide_eq_true_eq] at hicd
      exact ⟨⟨hicd.1.1, fun q hq => of_decide_eq_true (List.all_eq_true.mp hicd.1.2 q hq)⟩, hicd.2⟩
    simp only [q_ei] at q
    split at q
    · rename_i x r
      have e1 : ∀ (l : List (Int × Int)), q_lsw l df x.toInt = Op.lookupswitch.offset l df x.toInt := by
        intro l
        induction l with
        | nil => rfl
        | cons a r ih => obtain ⟨a, b⟩ := a; simp only [q_lsw, lookupswitch.offset_cons, ih]
      have e2 : ∀ (l : List (Int × Int)), (∀ q ∈ l, 0 ≤ (pc : Int) + q.2) → 0 ≤ (pc : Int) + q_lsw l df x.toInt := by
        intro l
        induction l with
        | nil => intro _; exact hic.1.1
        | cons a r ih =>
          intro h
          obtain ⟨a, b⟩ := a
          simp only [q_lsw]
          split
          · exact h (a, b) List.mem_cons_self
          · exact ih fun q hq => h q (List.mem_cons_of_mem _ hq)
      exact lv_lookup hx hb hd hic.2 (e1 _).symm (x_tg (e2 _ hic.1.2)) (hkk _ _ _ _ q H locs ls hI)
    · cases q
  case ireturn =>
    have hl1 : len = 1 := by simpa [q_iln] using hiln
    subst hl1
    simp only [q_ei] at q
    split at q
    · rename_i x
      obtain ⟨q1, q2⟩ := iv_boo q
      cases q1
      have hty : ∃ ty, ret = some ty ∧ narrow ty (.int x) = .int x := by
        simp only [q_icd, Bool.or_eq_true, Bool.and_eq_true, decide_eq_true_eq] at hicd
        rcases hicd with ⟨h1, -⟩ | ⟨h1, h2⟩
        · exact ⟨_, h1, rfl⟩
        · refine ⟨_, h1, ?_⟩
          rcases q2 h2 with rfl | rfl <;> rfl
      obtain ⟨ty, h1, h2⟩ := hty
      exact vx_ret (W.zret hx hb (hr.trans h1) h2 (fun t ht _ => ⟨⟨_, rfl, rfl, by rw [ht]; exact hI.1⟩, hI.2.1.F ht⟩) (fun z hz => hI.2.1.2.2 z hz) hd hlocks)
    · cases q
  case return_ =>
    have hl1 : len = 1 := by simpa [q_iln] using hiln
    subst hl1
    simp only [q_ei] at q
    split at q
    · cases q
      have h1 : ret = none := by simpa only [q_icd, decide_eq_true_eq] using hicd
      exact vx_ret (W.vret hx hb (hr.trans h1) (fun t ht _ => ⟨⟨_, rfl, rfl, by rw [ht]; exact hI.1⟩, hI.2.1.F ht⟩) (fun z hz => hI.2.1.2.2 z hz) hd hlocks)
    · cases q
  case areturn =>
    have hl1 : len = 1 := by simpa [q_iln] using hiln
    subst hl1
    simp only [q_ei] at q
    split at q
    · rename_i a
      cases q
      have h1 : ∃ n, ret = some (.object n) := by
        simp only [q_icd] at hicd
        split at hicd
        · exact ⟨_, rfl⟩
        · cases hicd
      obtain ⟨n, h1⟩ := h1
      exact vx_ret (W.aret hx hb (hr.trans h1) (Or.inl ⟨n, rfl⟩) (Or.inr ⟨_, rfl⟩) (fun t ht _ => ⟨⟨_, rfl, rfl, by rw [ht]; exact hI.1⟩, hI.2.1.F ht⟩) (fun z hz => hI.2.1.2.2 z hz) hd hlocks)
    · cases q
end SOUND9
