/-! The small machine is the machine: one instruction. -/
def q_iln (i : Instr) (n : Nat) : Bool := match i with
  | .aload_n _ => n == 1
  | .iconst _ => n == 1
  | .iload_n _ => n == 1
  | .getfield _ => n == 3
  | .invokevirtual _ => n == 3
  | .iload _ => n == 2
  | .ireturn => n == 1
  | .if_icmp _ _ => n == 3
  | .goto _ => n == 3
  | .ifCond _ _ => n == 3
  | .iaload => n == 1
  | .bipush _ => n == 2
  | .iadd => n == 1
  | .putfield _ => n == 3
  | .istore_n _ => n == 1
  | .istore _ => n == 2
  | .invokestatic _ => n == 3
  | .iinc _ _ => n == 3
  | .iastore => n == 1
  | .return_ => n == 1
  | .isub => n == 1
  | .sipush _ => n == 3
  | .dup => n == 1
  | .newarray _ => n == 2
  | .imul => n == 1
  | .i2l => n == 1
  | .ldc _ => n == 2
  | .ldc_w _ => n == 3
  | .astore _ => n == 2
  | .astore_n _ => n == 1
  | .aload _ => n == 2
  | .invokespecial _ => n == 3
  | .lcmp => n == 1
  | .lastore => n == 1
  | .laload => n == 1
  | .iand => n == 1
  | .ishl => n == 1
  | .irem => n == 1
  | .arraylength => n == 1
  | .ior => n == 1
  | .pop => n == 1
  | .new _ => n == 3
  | .idiv => n == 1
  | .dup2 => n == 1
  | .baload => n == 1
  | .ishr => n == 1
  | .getstatic _ => n == 3
  | .iushr => n == 1
  | .ixor => n == 1
  | .ifnonnull _ => n == 3
  | .ifnull _ => n == 3
  | .bastore => n == 1
  | .ineg => n == 1
  | .i2c => n == 1
  | .i2b => n == 1
  | .aconst_null => n == 1
  | .areturn => n == 1
  | .anewarray _ => n == 3
  | .aastore => n == 1
  | .aaload => n == 1
  | .athrow => n == 1
  | _ => true
/-- jumps stay in the code; answers are of the method's kind -/
def q_icd (M : qM) (y : MethodName) (ret : Option FieldType) (pc : Nat) (i : Instr) : Bool := match i with
  | .putfield j => match q_lk M j with
    | some (0, ci, f, _) => (!(q_ft ci f).2.2.2) || (decide (y.name = "<init>") && decide (y.cls = q_cn ci))
    | some (1, ci, f, _) => !(q_ft ci f).2.2.2
    | _ => true
  | .ireturn => (decide (ret = some .int) && !M.2.2.2.2) || (decide (ret = some .boolean) && M.2.2.2.2)
  | .return_ => decide (ret = none)
  | .areturn => match ret with
    | some (.object _) => true
    | _ => false
  | .if_icmp _ o => decide (0 ≤ (pc : Int) + o)
  | .ifCond _ o => decide (0 ≤ (pc : Int) + o)
  | .goto o => decide (0 ≤ (pc : Int) + o)
  | .ifnull o => decide (0 ≤ (pc : Int) + o)
  | .ifnonnull o => decide (0 ≤ (pc : Int) + o)
  | .bipush n => decide (-128 ≤ n ∧ n < 128)
  | .tableswitch d _ _ os => decide (0 ≤ (pc : Int) + d) && os.toList.all fun o => decide (0 ≤ (pc : Int) + o)
  | .lookupswitch d ps => decide (0 ≤ (pc : Int) + d) && (ps.toList.all fun q => decide (0 ≤ (pc : Int) + q.2)) && (ps.toList.zip (ps.toList.drop 1)).all (fun q => decide (q.1.1 < q.2.1))
  | _ => true
def q_row (M : qM) (y : MethodName) (bytes : ByteArray) (ret : Option FieldType) (x : Nat × Instr × Nat) : Prop := decode bytes x.1 = .ok x.2 ∧ q_iln x.2.1 x.2.2 = true ∧ q_icd M y ret x.1 x.2.1 = true
def q_tyOK (ds : String) (t : Nat) : Bool := match parseFieldDescriptor ds, t with
  | some .int, 1 => true
  | some (.object _), 0 => true
  | some (.array _), 0 => true
  | some (.object _), 2 => true
  | some (.array _), 2 => true
  | _, _ => false
noncomputable def q_lkOK (own : String) (i : Nat) (k : qL) : Bool := match k with
  | (0, ci, f, t) => decide (ci < 12) && decide (f < (q_cl.getD ci ("", q_T0, 0)).2.2) && q_tyOK (q_ft ci f).2.2.1 t
  | (1, ci, f, t) => decide (ci < 12) && decide (f < (q_cl.getD ci ("", q_T0, 0)).2.2) && q_tyOK (q_ft ci f).2.2.1 t
  | (2, mi, n, ct) => decide (ct / 4 < 12) && decide ((q_mn mi).cls = q_cn (ct / 4)) && decide ((parseMethodDescriptor (q_mn mi).desc).map (fun d => d.parameters.length) = some n) && decide (q_kd.getD mi 9 = 0)
  | (3, mi, n, _) => decide ((parseMethodDescriptor (q_mn mi).desc).map (fun d => d.parameters.length) = some n) && (decide (q_kd.getD mi 9 = 1) || decide (q_kd.getD mi 9 = 3))
  | (4, mi, n, ci) => decide (ci < 12) && decide ((q_mn mi).cls = q_cn ci) && decide ((parseMethodDescriptor (q_mn mi).desc).map (fun d => d.parameters.length) = some n) && decide ((q_mn mi).name = "<init>") && decide (q_kd.getD mi 9 = 2)
  | (17, mi, n, ci) => decide (ci < 12) && decide ((q_mn mi).cls = q_cn ci) && decide ((parseMethodDescriptor (q_mn mi).desc).map (fun d => d.parameters.length) = some n) && decide ((q_mn mi).name = "<init>") && decide (q_kd.getD mi 9 = 2)
  | (11, ci, _, _) => decide (ci < 12)
  | (12, E, _, _) => decide (E < 2)
  | (15, j, _, _) => q_sref.any fun q => decide (q.1 = own) && decide (q.2.1 = i) && decide (q.2.2.2 = j)
  | _ => true
theorem q_look {α : Type} : ∀ {t : List (Nat × α)} {i : Nat} {x : α}, t.lookup i = some x → (i, x) ∈ t
  | [], i, x, h => by cases h
  | (j, z) :: t, i, x, h => by
    rw [List.lookup_cons] at h
    cases hb : i == j with
    | true =>
      rw [hb] at h
      cases h
      rw [eq_of_beq hb]
      exact List.mem_cons_self
    | false =>
      rw [hb] at h
      exact List.mem_cons_of_mem _ (q_look h)
def x_Qc (X : qX) (o : qO) (h' : qH) : Array Value → State → Outcome → State → Prop := fun _ st oc t => (∃ v, o = .inl v ∧ oc = .returned (v.map (x_cv X)) ∧ x_W X h' t.heap) ∧ va_F (x_A X) st t
def x_XC (X : qX) (o : qO) (h' : qH) : String → State → State → Prop := fun E st t => (∃ j q, o = .inr (j, q) ∧ q_exn j = E ∧ x_W X h' t.heap) ∧ va_F (x_A X) st t
def x_Qf (X : qX) (o : qO) (h0 h' : qH) (below : List Frame) (args : Array Value) (s : State) : State → Prop := vx_MQ below (x_Qc X o h') (x_XC X o h') args s (h'.length - h0.length) (q_sz h' - q_sz h0) (x_A X)
/-- handlers as the file has them (kind of throw by a class entry), and as the small machine has them -/
def q_hOK (own : String) : List (Nat × Nat × Nat × Nat) → List (Nat × Nat × Nat × Nat) → Prop
  | [], [] => True
  | (a, b, t, e) :: r, (a', b', t', i) :: r' => (a = a' ∧ b = b' ∧ t = t' ∧ i ≠ 0 ∧ e < 2 ∧ Cond.classLink own i (q_exn e) ∈ q_Ws) ∧ q_hOK own r r'
  | _, _ => False
/-- 'throw new': the three instructions behind 'new', and the words of the throw -/
def q_thOK (M : qM) (y : MethodName) : Prop := ∀ (pc j len E a b : Nat), M.1.lookup pc = some (.new j, len) → q_lk M j = some (12, E, a, b) → ∃ (ic : Nat) (names : List String), M.1.lookup (pc + 3) = some (.dup, 1) ∧ M.1.lookup (pc + 4) = some (.invokespecial ic, 3) ∧ M.1.lookup (pc + 7) = some (.athrow, 1) ∧ Bundle.fit (q_exn E) = true ∧ (∀ n ∈ names, Bundle.fit n = true) ∧ names.length ≤ 4 ∧ Cond.initialized (q_exn E) ∈ q_Ws ∧
  (∀ w ∈ vx_at0 y.cls ic (q_exn E) names, vx_ot w = true ∧ (w ∈ q_Ws ∨ w ∈ q_Nw))
def x_E (X : qX) (l : Launch) (M : qM) (y : MethodName) (bytes : ByteArray) (ret : Option FieldType) (p : Program) (R : Room) (s : State) (m : MethodId) (args : Array Value) (meth : Method) (c : Code) (d : Nat) (h0 h' : qH) : Prop :=
  p.tables.exec = Jvm.exec ∧ c.code = bytes ∧ c.maxLocals = M.2.2.2.1 ∧ s.vm.findClass y.cls = some m.cls ∧ (∀ w ∈ q_Ws, w.before args s = true) ∧ meth.locks = false ∧ meth.sig.returnType = ret ∧ x_G X s s.heap ∧ (2 * d + 21 ≤ R.frames ∧ 64 * d + 464 ≤ R.locals) ∧ (h'.length - h0.length ≤ R.cells ∧ q_sz h' - q_sz h0 ≤ R.slots) ∧
  l.stackTraces = false ∧ X.1 ≤ s.heap.size ∧ (∀ x ∈ M.1, q_row M y bytes ret x) ∧ (∀ x ∈ M.2.1, q_lw y.cls x.1 x.2 ∈ lw_tbl) ∧ meth.name = y.name ∧ (∀ x ∈ M.2.1, q_lkOK y.cls x.1 x.2 = true) ∧ ((M.2.2.1 = [] ∧ ∀ x ∈ c.exceptionTable.toList, False) ∨ ∃ hh : List (Nat × Nat × Nat × Nat), c.exceptionTable.toList = tableOf hh ∧ q_hOK y.cls M.2.2.1 hh) ∧ q_thOK M y
def x_I (X : qX) (nL : Nat) (s : State) (h0 h : qH) (H : Heap) (locs : List Loc) (ls : Array Slot) (L : List Value) : Prop := x_W X h H ∧ va_S (x_A X) s.heap H locs ∧ x_L X nL ls L ∧ q_le h0 h
def x_Go (X : qX) (l : Launch) (M : qM) (p : Program) (e : Env) (R : Room) (s : State) (m : MethodId) (args : Array Value) (below : List Frame) (meth : Method) (c : Code) (h0 h' : qH) (o : qO) (pc : Nat) (L st : List Value) (h : qH) : Prop :=
  ∀ (H : Heap) (locs : List Loc) (ls : Array Slot), x_I X M.2.2.2.1 s h0 h H locs ls L → W p l e R s m args below meth c H locs (h.length - h0.length) (q_sz h - q_sz h0) (x_Qf X o h0 h' below args s) (F0 m pc ls (st.map (x_cv X)))
theorem x_in {i : Int32} {n : Nat} (h : q_in i n = true) : vp_in i n := by
  unfold q_in at h
  simp only [Bool.and_eq_true, Bool.not_eq_true', decide_eq_false_iff_not, decide_eq_true_eq] at h
  exact fun q => q.elim h.1 (fun q => absurd h.2 (Nat.not_lt.mpr q))
theorem x_tg {pc : Nat} {o : Int} (h : 0 ≤ (pc : Int) + o) : (pc : Int) + o = (q_tgt pc o : Int) := by
  unfold q_tgt
  omega
theorem x_ws {M : qM} {y : MethodName} {args : Array Value} {s : State} (hts : ∀ w ∈ q_Ws, w.before args s = true) (hl : ∀ x ∈ M.2.1, q_lw y.cls x.1 x.2 ∈ lw_tbl) {i : Nat} {k : qL} (hk : q_lk M i = some k) (hg : goodWord (q_lw y.cls i k) = true) : (q_lw y.cls i k).before args s = true :=
  hts _ (List.mem_filter.mpr ⟨hl (i, k) (q_look hk), hg⟩)
theorem x_nw {M : qM} {y : MethodName} {s : State} (hts : ∀ w ∈ q_Nw, va_Nw w s) (hl : ∀ x ∈ M.2.1, q_lw y.cls x.1 x.2 ∈ lw_tbl) {i : Nat} {k : qL} (hk : q_lk M i = some k) (hg : q_isN (q_lw y.cls i k) = true) : va_Nw (q_lw y.cls i k) s :=
  hts _ (List.mem_filter.mpr ⟨hl (i, k) (q_look hk), hg⟩)
section SOUND1
variable {X : qX} {l : Launch} {M : qM} {y : MethodName} {bytes : ByteArray} {ret : Option FieldType} {p : Program} {e : Env} {R : Room} {s : State} {m : MethodId} {args : Array Value} {below : List Frame} {meth : Method} {c : Code} {d : Nat} {h0 h' : qH} {o : qO}
variable {pc : Nat} {L st : List Value} {h : qH} {k : qK}
/-- it goes on with the same cells and locals -/
theorem so_k {pc1 : Nat} {st1 : List Value} {H : Heap} {locs : List Loc} {ls : Array Slot} (hk : ∀ pc L st h, k pc L st h = some (o, h') → x_Go X l M p e R s m args below meth c h0 h' o pc L st h) (q : k pc1 L st1 h = some (o, h')) (hI : x_I X M.2.2.2.1 s h0 h H locs ls L) : W p l e R s m args below meth c H locs (h.length - h0.length) (q_sz h - q_sz h0) (x_Qf X o h0 h' below args s) (F0 m pc1 ls (st1.map (x_cv X))) := hk _ _ _ _ q H locs ls hI
theorem so_ild {i len : Nat} (hk : ∀ pc L st h, k pc L st h = some (o, h') → x_Go X l M p e R s m args below meth c h0 h' o pc L st h) (q : q_ild i pc len L st h k = some (o, h')) : ∃ x, L[i]? = some (.int x) ∧ k (pc + len) L (.int x :: st) h = some (o, h') := by
  unfold q_ild at q
  split at q
  · rename_i x hx
    exact ⟨x, hx, q⟩
  · cases q
theorem iv_rdl {i len : Nat} (q : q_rdl i pc len L st h k = some (o, h')) : ∃ v, L[i]? = some v ∧ k (pc + len) L (v :: st) h = some (o, h') ∧ ((∃ a, v = .ref a) ∨ (∃ a, v = .float a) ∨ v = .null) := by
  unfold q_rdl at q
  split at q
  · rename_i x hx
    exact ⟨_, hx, q, Or.inl ⟨_, rfl⟩⟩
  · rename_i x hx
    exact ⟨_, hx, q, Or.inr (Or.inl ⟨_, rfl⟩)⟩
  · rename_i hx
    exact ⟨_, hx, q, Or.inr (Or.inr rfl)⟩
  · cases q
theorem iv_two {f : Int32 → Int32 → Int32} (q : q_two pc L st h k f = some (o, h')) : ∃ x z r, st = .int z :: .int x :: r ∧ k (pc + 1) L (.int (f x z) :: r) h = some (o, h') := by
  unfold q_two at q
  split at q
  · exact ⟨_, _, _, rfl, q⟩
  · cases q
theorem iv_one {f : Int32 → Int32} (q : q_one pc L st h k f = some (o, h')) : ∃ x r, st = .int x :: r ∧ k (pc + 1) L (.int (f x) :: r) h = some (o, h') := by
  unfold q_one at q
  split at q
  · exact ⟨_, _, rfl, q⟩
  · cases q
theorem iv_div {f : Int32 → Int32 → Int32} (q : q_div pc L st h k f = some (o, h')) : ∃ x z r, st = .int z :: .int x :: r ∧ ¬ z = 0 ∧ k (pc + 1) L (.int (f x z) :: r) h = some (o, h') := by
  unfold q_div at q
  split at q
  · split at q
    · cases q
    · rename_i hz
      exact ⟨_, _, _, rfl, hz, q⟩
  · cases q
theorem iv_ist {i len : Nat} (q : q_ist1 i pc len L st h k = some (o, h')) : ∃ x r, st = .int x :: r ∧ i < L.length ∧ k (pc + len) (L.set i (.int x)) r h = some (o, h') := by
  unfold q_ist1 at q
  split at q
  · unfold q_sto at q
    split at q
    · rename_i hi
      exact ⟨_, _, rfl, hi, q⟩
    · cases q
  · cases q
theorem iv_ast1 {i len : Nat} (q : q_ast1 i pc len L st h k = some (o, h')) : ∃ v r, st = v :: r ∧ i < L.length ∧ k (pc + len) (L.set i v) r h = some (o, h') ∧ ((∃ a, v = .ref a) ∨ v = .null) := by
  unfold q_ast1 at q
  split at q
  · unfold q_sto at q
    split at q
    · rename_i hi
      exact ⟨_, _, rfl, hi, q, Or.inl ⟨_, rfl⟩⟩
    · cases q
  · unfold q_sto at q
    split at q
    · rename_i hi
      exact ⟨_, _, rfl, hi, q, Or.inr rfl⟩
    · cases q
  · cases q
theorem so_aload {i : Nat} {v : Value} {H : Heap} {locs : List Loc} {ls : Array Slot} {Q : State → Prop} {cells slots : Nat} {rest : List Value} (hx : p.tables.exec = Jvm.exec) (hb : c.code = bytes) (hdg : (∃ n : Fin 4, n.val = i ∧ decode bytes pc = .ok (.aload_n n, 1)) ∨ decode bytes pc = .ok (.aload i, 2)) (hl : ls[i]? = some (.val v)) (hv : (∃ a, v = .ref a) ∨ v = .null)
    (h1 : (∃ n : Fin 4, n.val = i ∧ decode bytes pc = .ok (.aload_n n, 1)) → W p l e R s m args below meth c H locs cells slots Q (F0 m (pc + 1) ls (v :: rest))) (h2 : decode bytes pc = .ok (.aload i, 2) → W p l e R s m args below meth c H locs cells slots Q (F0 m (pc + 2) ls (v :: rest))) : W p l e R s m args below meth c H locs cells slots Q (F0 m pc ls rest) := by
  rcases hv with ⟨a, rfl⟩ | rfl
  · rcases hdg with ⟨n, hn, hd⟩ | hd
    · exact lv_aload_n hx hb hd hn hl (h1 ⟨n, hn, hd⟩)
    · exact lv_aload hx hb hd hl (h2 hd)
  · rcases hdg with ⟨n, hn, hd⟩ | hd
    · exact lv_aload_nN hx hb hd hn hl (h1 ⟨n, hn, hd⟩)
    · exact lv_aloadN hx hb hd hl (h2 hd)
theorem x_cvr {v : Value} (h : (∃ a, v = .ref a) ∨ (∃ a, v = .float a) ∨ v = .null) : ((∃ a, x_cv X v = .ref a) ∨ x_cv X v = .null) ∧ v.category = 1 := by
  rcases h with ⟨a, rfl⟩ | ⟨a, rfl⟩ | rfl
  · exact ⟨Or.inl ⟨_, rfl⟩, rfl⟩
  · exact ⟨Or.inl ⟨_, rfl⟩, rfl⟩
  · exact ⟨Or.inr rfl, rfl⟩
theorem x_i8 : ∀ n : Int, -128 ≤ n → n < 128 → (Int8.ofInt n).toInt32 = (Int8.ofInt n).toInt32 := fun _ _ _ => rfl
end SOUND1
