/-! Cells and slots only grow. -/
def q_se (e : va_E) : Nat := match e with
  | .inl (_, n, _) => n
  | .inr (c, fs) => if 12 ≤ c then 6 else fs.length
def q_sz (h : qH) : Nat := (h.map q_se).sum
def q_le (h h1 : qH) : Prop := h.length ≤ h1.length ∧ q_sz h ≤ q_sz h1
theorem q_le.rf {h : qH} : q_le h h := ⟨Nat.le_refl _, Nat.le_refl _⟩
theorem q_le.tr {a b c : qH} (h1 : q_le a b) (h2 : q_le b c) : q_le a c := ⟨Nat.le_trans h1.1 h2.1, Nat.le_trans h1.2 h2.2⟩
theorem q_sz_set : ∀ {h : qH} {a : Nat} {e0 e : va_E}, h[a]? = some e0 → q_se e = q_se e0 → q_sz (h.set a e) = q_sz h
  | [], a, e0, e, he, hq => by cases he
  | x :: h, 0, e0, e, he, hq => by
    cases he
    show q_se e + q_sz h = q_se x + q_sz h
    rw [hq]
  | x :: h, a + 1, e0, e, he, hq => by
    show q_se x + q_sz (h.set a e) = q_se x + q_sz h
    rw [q_sz_set (h := h) (a := a) he hq]
theorem q_sz_app {h : qH} {e : va_E} : q_sz (h ++ [e]) = q_sz h + q_se e := by
  simp [q_sz]
theorem q_le_set {h : qH} {a : Nat} {e0 : va_E} (he : h[a]? = some e0) {e : va_E} (hq : q_se e = q_se e0) : q_le h (h.set a e) := ⟨by rw [List.length_set]; exact Nat.le_refl _, by rw [q_sz_set he hq]; exact Nat.le_refl _⟩
theorem q_le_app {h : qH} {e : va_E} : q_le h (h ++ [e]) := ⟨by simp, by rw [q_sz_app]; exact Nat.le_add_right _ _⟩
theorem q_se_set {c f : Nat} {fs : List Value} {w : Value} : q_se (.inr (c, fs.set f w)) = q_se (.inr (c, fs)) := by
  simp [q_se]
section GROW
variable {M : qM} {call : Nat → List Value → qH → qR} {pc : Nat} {L st : List Value} {h : qH} {k : qK} {r : qO × qH}
theorem gr_back {t : Nat} {r0 : List Value} {a : qR} (hk : ∀ pc L st h1 r, k pc L st h1 = some r → q_le h1 r.2) (ha : ∀ r, a = some r → q_le h r.2) (e : q_back M t pc L r0 k a = some r) : q_le h r.2 := by
  rcases iv_back e with ⟨v, h1, h2, h3⟩ | ⟨E, q, h1, h2, h3⟩
  · exact (ha _ h2).tr (hk _ _ _ _ _ h3)
  · refine (ha _ h2).tr ?_
    rcases (iv_thr h3).2 with ⟨-, h4⟩ | ⟨t, n, len, i, -, -, -, h4, -⟩
    · rw [h4]
      exact q_le.rf
    · rcases h4 with ⟨f, -, -, h4⟩ | ⟨-, h4⟩
      · exact hk _ _ _ _ _ h4
      · exact hk _ _ _ _ _ h4
theorem gr_virt {i : Nat} (hk : ∀ pc L st h1 r, k pc L st h1 = some r → q_le h1 r.2) (hc : ∀ mi as h r, call mi as h = some r → q_le h r.2) (e : q_virt M call i pc L st h k = some r) : q_le h r.2 := by
  unfold q_virt at e
  split at e
  · split at e
    · split at e
      · obtain ⟨a, fs, -, -, e⟩ := iv_obj e
        exact gr_back hk (fun r h => hc _ _ _ _ h) e
      · cases e
    · cases e
  · split at e
    · split at e
      · unfold q_slen at e
        split at e
        · split at e
          · exact hk _ _ _ _ _ e
          · cases e
        · cases e
      · cases e
    · cases e
  · split at e
    · split at e
      · unfold q_schr at e
        split at e
        · split at e
          · split at e
            · exact hk _ _ _ _ _ e
            · cases e
          · cases e
        · cases e
      · cases e
    · cases e
  · cases e
theorem gr_spec {i : Nat} (hk : ∀ pc L st h1 r, k pc L st h1 = some r → q_le h1 r.2) (hc : ∀ mi as h r, call mi as h = some r → q_le h r.2) (e : q_spec M call i pc L st h k = some r) : q_le h r.2 := by
  unfold q_spec at e
  split at e
  · split at e
    · split at e
      · obtain ⟨a, fs, -, -, e⟩ := iv_obj e
        rcases iv_rV e with ⟨h1, e1, e2⟩ | ⟨E, q, h1, e1, e2⟩
        · exact (hc _ _ _ _ e1).tr (hk _ _ _ _ _ e2)
        · cases e2
      · cases e
    · cases e
  · split at e
    · split at e
      · exact hk _ _ _ _ _ e
      · cases e
    · cases e
  · split at e
    · split at e
      · obtain ⟨a, fs, -, -, e⟩ := iv_obj e
        rcases iv_rV e with ⟨h1, e1, e2⟩ | ⟨E, q, h1, e1, e2⟩
        · exact (hc _ _ _ _ e1).tr (hk _ _ _ _ _ e2)
        · cases e2
      · cases e
    · cases e
  · cases e
theorem gr_stat {i : Nat} (hk : ∀ pc L st h1 r, k pc L st h1 = some r → q_le h1 r.2) (hc : ∀ mi as h r, call mi as h = some r → q_le h r.2) (e : q_stat M call i pc L st h k = some r) : q_le h r.2 := by
  unfold q_stat at e
  split at e
  · split at e
    · exact gr_back hk (fun r h => hc _ _ _ _ h) e
    · cases e
  · split at e
    · split at e
      · exact hk _ _ _ _ _ e
      · cases e
    · cases e
  · split at e
    · split at e
      · exact hk _ _ _ _ _ e
      · cases e
    · cases e
  · split at e
    · split at e
      · obtain ⟨a, ns, f, b, nd, g, -, -, -, hb, -, -, -, -, -, -, -, e⟩ := iv_cpy e
        exact q_le.tr (q_le_set hb (by rfl)) (hk _ _ _ _ _ e)
      · cases e
    · cases e
  · cases e
theorem gr_putf {i : Nat} (hk : ∀ pc L st h1 r, k pc L st h1 = some r → q_le h1 r.2) (e : q_putf M i pc L st h k = some r) : q_le h r.2 := by
  have go : ∀ {v : Value} {ci f : Nat} {w : Value} {r0 : List Value}, (q_pV h v ci f w fun h1 => k (pc + 3) L r0 h1) = some r → q_le h r.2 := by
    intro v ci f w r0 e
    obtain ⟨a, fs, -, he, -, -, e⟩ := iv_pV e
    exact (q_le_set he q_se_set).tr (hk _ _ _ _ _ e)
  unfold q_putf at e
  split at e <;> first | exact go e | cases e
theorem gr_getf {i : Nat} (hk : ∀ pc L st h1 r, k pc L st h1 = some r → q_le h1 r.2) (e : q_getf M i pc L st h k = some r) : q_le h r.2 := by
  have gI : ∀ {v : Value} {ci f : Nat} {r0 : List Value}, (q_gI h v ci f fun x => k (pc + 3) L (.int x :: r0) h) = some r → q_le h r.2 := by
    intro v ci f r0 e
    obtain ⟨a, fs, x, -, -, -, e⟩ := iv_gI e
    exact hk _ _ _ _ _ e
  have gR : ∀ {v : Value} {ci f : Nat} {r0 : List Value}, (q_gR h v ci f fun x => k (pc + 3) L (.ref x :: r0) h) = some r → q_le h r.2 := by
    intro v ci f r0 e
    obtain ⟨a, fs, x, -, -, -, e⟩ := iv_gR e
    exact hk _ _ _ _ _ e
  have gN : ∀ {v : Value} {ci f : Nat} {r0 : List Value}, (q_gN h v ci f (k (pc + 3) L (.null :: r0) h) fun x => k (pc + 3) L (.ref x :: r0) h) = some r → q_le h r.2 := by
    intro v ci f r0 e
    obtain ⟨a, fs, x, -, -, -, ⟨-, e⟩ | ⟨b, -, e⟩⟩ := iv_gN e
    · exact hk _ _ _ _ _ e
    · exact hk _ _ _ _ _ e
  unfold q_getf at e
  split at e <;> first | exact gI e | exact gR e | exact gN e | cases e
theorem gr_nw {i : Nat} (hk : ∀ pc L st h1 r, k pc L st h1 = some r → q_le h1 r.2) (e : q_new M i pc L st h k = some r) : q_le h r.2 := by
  unfold q_new at e
  split at e
  · split at e
    · exact q_le_app.tr (hk _ _ _ _ _ e)
    · cases e
  · split at e
    · split at e
      · cases e
        exact q_le_app
      · cases e
    · cases e
  · cases e
theorem gr_sto {i len : Nat} {v : Value} {r0 : List Value} (hk : ∀ pc L st h1 r, k pc L st h1 = some r → q_le h1 r.2) (e : q_sto i pc len L v r0 h k = some r) : q_le h r.2 := by
  unfold q_sto at e
  split at e
  · exact hk _ _ _ _ _ e
  · cases e
theorem gr_ei {i : Instr} {len : Nat} (hk : ∀ pc L st h1 r, k pc L st h1 = some r → q_le h1 r.2) (hc : ∀ mi as h r, call mi as h = some r → q_le h r.2) (e : q_ei M call i len pc L st h k = some r) : q_le h r.2 := by
  have ild : ∀ {i len : Nat}, q_ild i pc len L st h k = some r → q_le h r.2 := by
    intro i len e
    unfold q_ild at e
    split at e
    · exact hk _ _ _ _ _ e
    · cases e
  have rdl : ∀ {i len : Nat}, q_rdl i pc len L st h k = some r → q_le h r.2 := by
    intro i len e
    unfold q_rdl at e
    split at e <;> first | exact hk _ _ _ _ _ e | cases e
  have ist : ∀ {i len : Nat}, q_ist1 i pc len L st h k = some r → q_le h r.2 := by
    intro i len e
    unfold q_ist1 at e
    split at e <;> first | exact gr_sto hk e | cases e
  have ast : ∀ {i len : Nat}, q_ast1 i pc len L st h k = some r → q_le h r.2 := by
    intro i len e
    unfold q_ast1 at e
    split at e <;> first | exact gr_sto hk e | cases e
  have two : ∀ {f : Int32 → Int32 → Int32}, q_two pc L st h k f = some r → q_le h r.2 := by
    intro f e
    unfold q_two at e
    split at e <;> first | exact hk _ _ _ _ _ e | cases e
  have one : ∀ {f : Int32 → Int32}, q_one pc L st h k f = some r → q_le h r.2 := by
    intro f e
    unfold q_one at e
    split at e <;> first | exact hk _ _ _ _ _ e | cases e
  have dvd : ∀ {f : Int32 → Int32 → Int32}, q_div pc L st h k f = some r → q_le h r.2 := by
    intro f e
    unfold q_div at e
    split at e
    · split at e
      · cases e
      · exact hk _ _ _ _ _ e
    · cases e
  have ldc : ∀ {i len : Nat}, q_ldc M i pc L st h k len = some r → q_le h r.2 := by
    intro i len e
    unfold q_ldc at e
    split at e <;> first | exact hk _ _ _ _ _ e | cases e
  have nll : ∀ {b : Bool} {o : Int}, q_nll b o pc L st h k = some r → q_le h r.2 := by
    intro b o e
    unfold q_nll at e
    split at e
    · rcases iv_nul e with ⟨-, e⟩ | ⟨-, e⟩
      · exact hk _ _ _ _ _ e
      · exact hk _ _ _ _ _ e
    · cases e
  cases i <;> try (exact absurd (show (none : qR) = some r from e) (fun q => nomatch q))
  case aload_n => exact rdl e
  case iconst => exact hk _ _ _ _ _ e
  case iload_n => exact ild e
  case getfield => exact gr_getf hk e
  case invokevirtual => exact gr_virt hk hc e
  case iload => exact ild e
  case ireturn =>
    simp only [q_ei] at e
    split at e
    · have := (iv_boo e).1
      cases this
      exact q_le.rf
    · cases e
  case if_icmp =>
    simp only [q_ei, q_icm] at e
    split at e
    · split at e
      · exact hk _ _ _ _ _ e
      · exact hk _ _ _ _ _ e
    · cases e
  case goto => exact hk _ _ _ _ _ e
  case ifCond =>
    simp only [q_ei, q_ifc] at e
    split at e
    · split at e
      · exact hk _ _ _ _ _ e
      · exact hk _ _ _ _ _ e
    · cases e
  case iaload =>
    simp only [q_ei] at e
    split at e
    · obtain ⟨a, n, f, -, -, -, e⟩ := iv_ald e
      exact hk _ _ _ _ _ e
    · cases e
  case bipush => exact hk _ _ _ _ _ e
  case iadd => exact two e
  case putfield => exact gr_putf hk e
  case istore_n => exact ist e
  case istore => exact ist e
  case invokestatic => exact gr_stat hk hc e
  case iinc =>
    simp only [q_ei, q_iinc] at e
    split at e
    · exact hk _ _ _ _ _ e
    · cases e
  case iastore =>
    simp only [q_ei] at e
    split at e
    · obtain ⟨a, n, f, -, he, -, -, e⟩ := iv_ast e
      exact q_le.tr (q_le_set he (by rfl)) (hk _ _ _ _ _ e)
    · cases e
  case return_ =>
    simp only [q_ei] at e
    split at e
    · cases e
      exact q_le.rf
    · cases e
  case isub => exact two e
  case sipush => exact hk _ _ _ _ _ e
  case dup =>
    simp only [q_ei] at e
    split at e
    · split at e
      · exact hk _ _ _ _ _ e
      · cases e
    · cases e
  case newarray =>
    simp only [q_ei] at e
    split at e
    · split at e
      · cases e
      · exact q_le_app.tr (hk _ _ _ _ _ (iv_nar e).2.2)
    · cases e
  case imul => exact two e
  case i2l =>
    simp only [q_ei] at e
    split at e
    · exact hk _ _ _ _ _ e
    · cases e
  case ldc => exact ldc e
  case ldc_w => exact ldc e
  case astore => exact ast e
  case astore_n => exact ast e
  case aload => exact rdl e
  case invokespecial => exact gr_spec hk hc e
  case lcmp =>
    simp only [q_ei, q_lcp] at e
    split at e
    · exact hk _ _ _ _ _ e
    · cases e
  case lastore =>
    simp only [q_ei] at e
    split at e
    · obtain ⟨a, n, f, -, he, -, -, e⟩ := iv_lst e
      exact q_le.tr (q_le_set he (by rfl)) (hk _ _ _ _ _ e)
    · cases e
  case laload =>
    simp only [q_ei] at e
    split at e
    · obtain ⟨a, n, f, -, -, -, e⟩ := iv_lld e
      exact hk _ _ _ _ _ e
    · cases e
  case iand => exact two e
  case ishl => exact two e
  case irem => exact dvd e
  case arraylength =>
    simp only [q_ei] at e
    split at e
    · obtain ⟨a, t, x, -, -, -, e⟩ := iv_len e
      exact hk _ _ _ _ _ e
    · cases e
  case ior => exact two e
  case pop =>
    simp only [q_ei] at e
    split at e
    · split at e
      · exact hk _ _ _ _ _ e
      · cases e
    · cases e
  case new => exact gr_nw hk e
  case idiv => exact dvd e
  case dup2 =>
    simp only [q_ei] at e
    split at e
    · split at e
      · exact hk _ _ _ _ _ e
      · cases e
    · cases e
  case baload =>
    simp only [q_ei] at e
    split at e
    · obtain ⟨a, t, n, f, -, -, -, -, e⟩ := iv_bld e
      exact hk _ _ _ _ _ e
    · cases e
  case ishr => exact two e
  case getstatic =>
    simp only [q_ei] at e
    split at e
    · exact hk _ _ _ _ _ e
    · cases e
  case tableswitch =>
    simp only [q_ei, q_tsw] at e
    split at e
    · split at e
      · exact hk _ _ _ _ _ e
      · split at e
        · exact hk _ _ _ _ _ e
        · cases e
    · cases e
  case iushr => exact two e
  case ixor => exact two e
  case ifnonnull => exact nll e
  case ifnull => exact nll e
  case bastore =>
    simp only [q_ei] at e
    split at e
    · obtain ⟨a, t, n, f, -, he, -, -, -, e⟩ := iv_bst e
      exact q_le.tr (q_le_set he (by rfl)) (hk _ _ _ _ _ e)
    · cases e
  case ineg => exact one e
  case i2c => exact one e
  case i2b => exact one e
  case aconst_null => exact hk _ _ _ _ _ e
  case lookupswitch =>
    simp only [q_ei] at e
    split at e
    · exact hk _ _ _ _ _ e
    · cases e
  case areturn =>
    simp only [q_ei] at e
    split at e
    · cases e
      exact q_le.rf
    · cases e
  case anewarray =>
    simp only [q_ei] at e
    split at e
    · exact q_le_app.tr (hk _ _ _ _ _ (iv_nar e).2.2)
    · cases e
  case aastore =>
    simp only [q_ei] at e
    split at e
    · obtain ⟨a, b, n, f, fs, -, -, he, -, -, -, e⟩ := iv_rst e
      exact q_le.tr (q_le_set he (by rfl)) (hk _ _ _ _ _ e)
    · cases e
  case aaload =>
    simp only [q_ei] at e
    split at e
    · obtain ⟨a, n, f, -, -, -, ⟨-, e⟩ | ⟨b, -, e⟩⟩ := iv_rld e
      · exact hk _ _ _ _ _ e
      · exact hk _ _ _ _ _ e
    · cases e
end GROW
theorem gr_it {M : qM} {call : Nat → List Value → qH → qR} (hc : ∀ mi as h r, call mi as h = some r → q_le h r.2) : ∀ (n : Nat) (pc : Nat) (L st : List Value) (h : qH) (r : qO × qH), q_it M call n pc L st h = some r → q_le h r.2
  | 0, pc, L, st, h, r, e => by cases e
  | n + 1, pc, L, st, h, r, e => by
    have e1 : q_ex M call pc L st h (q_it M call n) = some r := e
    unfold q_ex at e1
    split at e1
    · exact gr_ei (gr_it hc n) hc e1
    · cases e1
theorem gr_call (MT : List qM) : ∀ (d : Nat) (mi : Nat) (as : List Value) (h : qH) (r : qO × qH), q_call MT d mi as h = some r → q_le h r.2
  | 0, mi, as, h, r, e => by cases e
  | d + 1, mi, as, h, r, e => by
    unfold q_call at e
    split at e
    · split at e
      · obtain ⟨n, e⟩ := q_run_ex e
        exact gr_it (gr_call MT d) n _ _ _ _ _ e
      · cases e
    · cases e
