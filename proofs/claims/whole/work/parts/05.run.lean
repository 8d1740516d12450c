theorem nt_cons {X : List Value} {G : Value → List Value → qK → qR} (hG : ∀ v r, q_nat (G v r)) : q_nat (fun k => match X with
  | v :: r => G v r k
  | [] => none) := by
  rcases X with _ | ⟨v, r⟩
  · exact nt_c
  · exact hG _ _
theorem nt_opt {α : Type} {X : Option α} {G : α → qK → qR} (hG : ∀ v, q_nat (G v)) : q_nat (fun k => match X with
  | some v => G v k
  | none => none) := by
  rcases X with _ | v
  · exact nt_c
  · exact hG _
theorem nt_r1 {st : List Value} {G : List Value → qK → qR} (hG : ∀ r, q_nat (G r)) : q_nat (fun k => match st with
  | .ref _ :: r => G r k
  | _ => none) := by
  rcases st with _ | ⟨v, r⟩
  · exact nt_c
  · cases v
    case ref => exact hG _
    all_goals exact nt_c
theorem nt_cp {st : List Value} {G : Int32 → Int32 → Value → Int32 → Value → List Value → qK → qR} (hG : ∀ a b c d e r, q_nat (G a b c d e r)) : q_nat (fun k => match st with
  | .int n :: .int dp :: d :: .int sp :: s :: r => G n dp d sp s r k
  | _ => none) := by
  rcases st with _ | ⟨v, _ | ⟨w, _ | ⟨d, _ | ⟨u, _ | ⟨s, r⟩⟩⟩⟩⟩
  · exact nt_c
  · cases v <;> exact nt_c
  · cases v <;> cases w <;> exact nt_c
  · cases v <;> cases w <;> exact nt_c
  · cases v <;> cases w <;> cases u <;> exact nt_c
  · cases v <;> try exact nt_c
    cases w <;> try exact nt_c
    cases u <;> first | exact nt_c | exact hG _ _ _ _ _ _
theorem nt_getf {M : qM} {i pc : Nat} {L st : List Value} {h : qH} : q_nat (fun k => q_getf M i pc L st h k) := by
  unfold q_getf
  rcases st with _ | ⟨v, r⟩
  · rcases q_lk M i with _ | ⟨_ | _ | _, ci, f, _ | _ | _ | _⟩ <;> exact nt_c
  · rcases q_lk M i with _ | ⟨_ | _ | _, ci, f, _ | _ | _ | _⟩ <;> first | exact nt_c | exact nt_gI fun _ => nt_k | exact nt_gR fun _ => nt_k | exact nt_gN nt_k fun _ => nt_k
theorem nt_putf {M : qM} {i pc : Nat} {L st : List Value} {h : qH} : q_nat (fun k => q_putf M i pc L st h k) := by
  unfold q_putf
  rcases st with _ | ⟨v, _ | ⟨w, r⟩⟩
  · rcases q_lk M i with _ | ⟨_ | _ | _, ci, f, _ | _ | _ | _⟩ <;> exact nt_c
  · cases v <;> (rcases q_lk M i with _ | ⟨_ | _ | _, ci, f, _ | _ | _ | _⟩ <;> exact nt_c)
  · cases v <;> (rcases q_lk M i with _ | ⟨_ | _ | _, ci, f, _ | _ | _ | _⟩ <;> first | exact nt_c | exact nt_pV fun _ => nt_k)
theorem nt_ldc {M : qM} {i pc len : Nat} {L st : List Value} {h : qH} : q_nat (fun k => q_ldc M i pc L st h k len) := by
  unfold q_ldc
  rcases q_lk M i with _ | ⟨_ | _ | _ | _ | _ | _ | _ | _ | _ | _ | _ | _ | _ | _ | _ | _ | _, a, b, c⟩ <;> first | exact nt_c | exact nt_k
theorem nt_new {M : qM} {i pc : Nat} {L st : List Value} {h : qH} : q_nat (fun k => q_new M i pc L st h k) := by
  unfold q_new
  rcases q_lk M i with _ | ⟨_ | _ | _ | _ | _ | _ | _ | _ | _ | _ | _ | _ | _ | _, a, b, c⟩ <;> try exact nt_c
  · show q_nat (fun k => match q_dfl[a]? with
      | some fs => k (pc + 3) L (.ref h.length :: st) (h ++ [.inr (a, fs)])
      | none => none)
    rcases q_dfl[a]? with _ | fs
    · exact nt_c
    · exact nt_k
theorem nt_virt {M : qM} {call : Nat → List Value → qH → qR} {i pc : Nat} {L st : List Value} {h : qH} : q_nat (fun k => q_virt M call i pc L st h k) := by
  unfold q_virt
  rcases q_lk M i with _ | ⟨_ | _ | _ | _ | _ | _ | _ | _, a, b, c⟩ <;> try exact nt_c
  · exact nt_cons fun _ _ => nt_if (nt_rcv nt_back) nt_c
  · exact nt_v fun _ _ => nt_if (nt_slen fun _ => nt_k) nt_c
  · exact nt_iv fun _ _ _ => nt_if (nt_schr fun _ => nt_k) nt_c
theorem nt_spec {M : qM} {call : Nat → List Value → qH → qR} {i pc : Nat} {L st : List Value} {h : qH} : q_nat (fun k => q_spec M call i pc L st h k) := by
  unfold q_spec
  rcases q_lk M i with _ | ⟨_ | _ | _ | _ | _ | _ | _ | _ | _ | _ | _ | _ | _ | _ | _ | _ | _ | _ | _, a, b, c⟩ <;> try exact nt_c
  · exact nt_cons fun _ _ => nt_if (nt_rcv (nt_rV (fun _ _ _ => nt_c) fun _ => nt_k)) nt_c
  · exact nt_r1 fun _ => nt_if nt_k nt_c
  · exact nt_cons fun _ _ => nt_if (nt_rcv (nt_rV (fun _ _ _ => nt_c) fun _ => nt_k)) nt_c
theorem nt_stat {M : qM} {call : Nat → List Value → qH → qR} {i pc : Nat} {L st : List Value} {h : qH} : q_nat (fun k => q_stat M call i pc L st h k) := by
  unfold q_stat
  rcases q_lk M i with _ | ⟨_ | _ | _ | _ | _ | _ | _ | _ | _ | _ | _, a, b, c⟩ <;> try exact nt_c
  · exact nt_if nt_back nt_c
  · exact nt_2 fun _ _ _ => nt_if nt_k nt_c
  · exact nt_2 fun _ _ _ => nt_if nt_k nt_c
  · exact nt_cp fun _ _ _ _ _ _ => nt_if (nt_cpy fun _ => nt_k) nt_c
theorem nt_ei {M : qM} {call : Nat → List Value → qH → qR} {i : Instr} {len pc : Nat} {L st : List Value} {h : qH} : q_nat (fun k => q_ei M call i len pc L st h k) := by
  cases i <;> try exact nt_c
  case aload_n => exact nt_rdl
  case iconst => exact nt_k
  case iload_n => exact nt_ild
  case getfield => exact nt_getf
  case invokevirtual => exact nt_virt
  case iload => exact nt_ild
  case if_icmp => exact nt_2 fun _ _ _ => nt_if nt_k nt_k
  case goto => exact nt_k
  case ifCond => exact nt_1 fun _ _ => nt_if nt_k nt_k
  case iaload => exact nt_iv fun _ _ _ => nt_ald fun _ => nt_k
  case bipush => exact nt_k
  case iadd => exact nt_2 fun _ _ _ => nt_k
  case putfield => exact nt_putf
  case istore_n => exact nt_ist1
  case istore => exact nt_ist1
  case invokestatic => exact nt_stat
  case iinc i n =>
    show q_nat (fun k => match L[i]? with
      | some (.int x) => k (pc + 3) (L.set i (.int (x + Int32.ofInt n))) st h
      | _ => none)
    rcases L[i]? with _ | v
    · exact nt_c
    · cases v <;> first | exact nt_c | exact nt_k
  case iastore => exact nt_iiv fun _ _ _ _ => nt_ast fun _ => nt_k
  case isub => exact nt_2 fun _ _ _ => nt_k
  case sipush => exact nt_k
  case dup => exact nt_v fun _ _ => nt_if nt_k nt_c
  case newarray => exact nt_1 fun _ _ => nt_if nt_c (nt_nar fun _ _ => nt_k)
  case imul => exact nt_2 fun _ _ _ => nt_k
  case i2l => exact nt_1 fun _ _ => nt_k
  case ldc => exact nt_ldc
  case ldc_w => exact nt_ldc
  case astore => exact nt_ast1
  case astore_n => exact nt_ast1
  case aload => exact nt_rdl
  case invokespecial => exact nt_spec
  case lcmp =>
    show q_nat (fun k => match st with
      | .long y :: .long x :: r => k (pc + 1) L (.int (lg_cmp x y) :: r) h
      | _ => none)
    rcases st with _ | ⟨v, _ | ⟨w, r⟩⟩
    · exact nt_c
    · cases v <;> exact nt_c
    · cases v <;> try exact nt_c
      cases w <;> first | exact nt_c | exact nt_k
  case lastore =>
    show q_nat (fun k => match st with
      | .long x :: .int j :: v :: r => q_lst h v j x fun h1 => k (pc + 1) L r h1
      | _ => none)
    rcases st with _ | ⟨v, _ | ⟨w, _ | ⟨u, r⟩⟩⟩
    · exact nt_c
    · cases v <;> exact nt_c
    · cases v <;> cases w <;> exact nt_c
    · cases v <;> try exact nt_c
      cases w <;> first | exact nt_c | exact nt_lst fun _ => nt_k
  case laload => exact nt_iv fun _ _ _ => nt_lld fun _ => nt_k
  case iand => exact nt_2 fun _ _ _ => nt_k
  case ishl => exact nt_2 fun _ _ _ => nt_k
  case irem => exact nt_2 fun _ _ _ => nt_if nt_c nt_k
  case arraylength => exact nt_v fun _ _ => nt_len fun _ => nt_k
  case ior => exact nt_2 fun _ _ _ => nt_k
  case pop => exact nt_v fun _ _ => nt_if nt_k nt_c
  case new => exact nt_new
  case idiv => exact nt_2 fun _ _ _ => nt_if nt_c nt_k
  case dup2 =>
    show q_nat (fun k => match st with
      | v :: w :: r => if v.category = 1 ∧ w.category = 1 then k (pc + 1) L (v :: w :: v :: w :: r) h else none
      | _ => none)
    rcases st with _ | ⟨v, _ | ⟨w, r⟩⟩
    · exact nt_c
    · exact nt_c
    · exact nt_if nt_k nt_c
  case baload => exact nt_iv fun _ _ _ => nt_bld fun _ => nt_k
  case ishr => exact nt_2 fun _ _ _ => nt_k
  case getstatic i =>
    show q_nat (fun k => match q_lk M i with
      | some (16, _, _, _) => k (pc + 3) L (.ref 1 :: st) h
      | _ => none)
    rcases q_lk M i with _ | ⟨t, a, b, c⟩
    · exact nt_c
    · by_cases ht : t = 16
      · subst ht
        exact nt_k
      · refine Or.inl ⟨none, fun k => ?_⟩
        split
        · rename_i heq
          cases heq
          exact absurd rfl ht
        · rfl
  case tableswitch d lo hi os =>
    refine nt_1 fun x r => nt_if nt_k ?_
    rcases os.toList[(x.toInt - lo).toNat]? with _ | o
    · exact nt_c
    · exact nt_k
  case iushr => exact nt_2 fun _ _ _ => nt_k
  case ixor => exact nt_2 fun _ _ _ => nt_k
  case ifnonnull => exact nt_v fun _ _ => nt_nul nt_k nt_k
  case ifnull => exact nt_v fun _ _ => nt_nul nt_k nt_k
  case bastore => exact nt_iiv fun _ _ _ _ => nt_bst fun _ => nt_k
  case ineg => exact nt_1 fun _ _ => nt_k
  case i2c => exact nt_1 fun _ _ => nt_k
  case i2b => exact nt_1 fun _ _ => nt_k
  case aconst_null => exact nt_k
  case lookupswitch => exact nt_1 fun _ _ => nt_k
  case anewarray i =>
    show q_nat (fun k => match q_lk M i, st with
      | some (13, _, _, _), .int n :: r => q_nar h 4 n fun a h1 => k (pc + 3) L (.ref a :: r) h1
      | _, _ => none)
    rcases q_lk M i with _ | ⟨t, a, b, c⟩
    · exact nt_c
    · by_cases ht : t = 13
      · subst ht
        rcases st with _ | ⟨v, r⟩
        · exact nt_c
        · cases v <;> first | exact nt_c | exact nt_nar fun _ _ => nt_k
      · refine Or.inl ⟨none, fun k => ?_⟩
        split
        · rename_i heq
          cases heq
          exact absurd rfl ht
        · rfl
  case aastore =>
    show q_nat (fun k => match st with
      | w :: .int j :: v :: r => q_rst h v j w fun h1 => k (pc + 1) L r h1
      | _ => none)
    rcases st with _ | ⟨v, _ | ⟨w, _ | ⟨u, r⟩⟩⟩
    · exact nt_c
    · exact nt_c
    · cases w <;> exact nt_c
    · cases w <;> first | exact nt_c | exact nt_rst fun _ => nt_k
  case aaload => exact nt_iv fun _ _ _ => nt_rld nt_k fun _ => nt_k
theorem nt_ex {M : qM} {call : Nat → List Value → qH → qR} {pc : Nat} {L st : List Value} {h : qH} : q_nat (fun k => q_ex M call pc L st h k) := by
  unfold q_ex
  rcases List.lookup pc M.1 with _ | ⟨i, len⟩
  · exact nt_c
  · exact nt_ei
theorem nt_exb (M : qM) (call : Nat → List Value → qH → qR) (pc : Nat) (L st : List Value) (h : qH) : (∃ r, ∀ k, q_ex M call pc L st h k = r) ∨ ∃ (pc1 : Nat) (L1 st1 : List Value) (h1 : qH), ∀ k, q_ex M call pc L st h k = k pc1 L1 st1 h1 := nt_ex
theorem q_it_mono (M : qM) (call : Nat → List Value → qH → qR) : ∀ (n : Nat) (pc : Nat) (L st : List Value) (h : qH) (o : qO × qH), q_it M call n pc L st h = some o → q_it M call (n + 1) pc L st h = some o
  | 0, pc, L, st, h, o, e => by cases e
  | n + 1, pc, L, st, h, o, e => by
    have e1 : q_ex M call pc L st h (q_it M call n) = some o := e
    show q_ex M call pc L st h (q_it M call (n + 1)) = some o
    rcases nt_exb M call pc L st h with ⟨r, hr⟩ | ⟨pc1, L1, st1, h1, hr⟩
    · rw [hr] at e1 ⊢
      exact e1
    · rw [hr] at e1 ⊢
      exact q_it_mono M call n pc1 L1 st1 h1 o e1
theorem q_it_le (M : qM) (call : Nat → List Value → qH → qR) {n k : Nat} (hn : n ≤ k) {pc : Nat} {L st : List Value} {h : qH} {o : qO × qH} (e : q_it M call n pc L st h = some o) : q_it M call k pc L st h = some o := by
  induction hn with
  | refl => exact e
  | step _ ih => exact q_it_mono M call _ _ _ _ _ _ ih
/-- the run, as long as it takes -/
noncomputable def q_run (M : qM) (call : Nat → List Value → qH → qR) : qK := fun pc L st h =>
  match Classical.propDecidable (∃ n o, q_it M call n pc L st h = some o) with
  | .isTrue p => some (Classical.choose (Classical.choose_spec p))
  | .isFalse _ => none
theorem q_run_of {M : qM} {call : Nat → List Value → qH → qR} {n : Nat} {pc : Nat} {L st : List Value} {h : qH} {o : qO × qH} (e : q_it M call n pc L st h = some o) : q_run M call pc L st h = some o := by
  unfold q_run
  split
  · rename_i p _
    have h1 := Classical.choose_spec (Classical.choose_spec p)
    have h2 := q_it_le M call (Nat.le_max_left n (Classical.choose p)) e
    have h3 := q_it_le M call (Nat.le_max_right n (Classical.choose p)) h1
    rw [h2] at h3
    exact h3.symm
  · rename_i p _
    exact absurd ⟨n, o, e⟩ p
theorem q_run_ex {M : qM} {call : Nat → List Value → qH → qR} {pc : Nat} {L st : List Value} {h : qH} {o : qO × qH} (e : q_run M call pc L st h = some o) : ∃ n, q_it M call n pc L st h = some o := by
  unfold q_run at e
  split at e
  · rename_i p _
    refine ⟨Classical.choose p, ?_⟩
    rw [← e]
    exact Classical.choose_spec (Classical.choose_spec p)
  · cases e
theorem q_run_eq (M : qM) (call : Nat → List Value → qH → qR) (pc : Nat) (L st : List Value) (h : qH) : q_run M call pc L st h = q_ex M call pc L st h (q_run M call) := by
  rcases nt_exb M call pc L st h with ⟨r, hr⟩ | ⟨pc1, L1, st1, h1, hr⟩
  · rw [hr]
    cases r with
    | none =>
      cases e : q_run M call pc L st h with
      | none => rfl
      | some o =>
        obtain ⟨n, en⟩ := q_run_ex e
        cases n with
        | zero => cases en
        | succ n => exact absurd ((hr _).symm.trans en) (by simp)
    | some o => exact q_run_of (n := 1) (hr _)
  · rw [hr]
    cases e : q_run M call pc L st h with
    | none =>
      cases e2 : q_run M call pc1 L1 st1 h1 with
      | none => rfl
      | some o =>
        obtain ⟨n, en⟩ := q_run_ex e2
        have := q_run_of (M := M) (call := call) (n := n + 1) (pc := pc) (L := L) (st := st) (h := h) (o := o) ((hr _).trans en)
        rw [e] at this
        cases this
    | some o =>
      obtain ⟨n, en⟩ := q_run_ex e
      cases n with
      | zero => cases en
      | succ n => exact (q_run_of ((hr _).symm.trans en)).symm
/-- the run up to the places of a list -/
noncomputable def q_cut (M : qM) (call : Nat → List Value → qH → qR) (cs : List Nat) : Nat → qK
  | 0 => q_run M call
  | n + 1 => fun pc L st h => q_ex M call pc L st h fun pc1 L1 st1 h1 => match cs.elem pc1 with
    | true => q_run M call pc1 L1 st1 h1
    | false => q_cut M call cs n pc1 L1 st1 h1
theorem q_cut_eq (M : qM) (call : Nat → List Value → qH → qR) (cs : List Nat) : ∀ (n : Nat) (pc : Nat) (L st : List Value) (h : qH), q_run M call pc L st h = q_cut M call cs n pc L st h
  | 0, _, _, _, _ => rfl
  | n + 1, pc, L, st, h => by
    rw [q_run_eq]
    show q_ex M call pc L st h (q_run M call) = q_ex M call pc L st h fun pc1 L1 st1 h1 => match cs.elem pc1 with
      | true => q_run M call pc1 L1 st1 h1
      | false => q_cut M call cs n pc1 L1 st1 h1
    congr 1
    funext pc1 L1 st1 h1
    cases cs.elem pc1 with
    | true => rfl
    | false => exact q_cut_eq M call cs n pc1 L1 st1 h1
/-- a call, at most d deep -/
noncomputable def q_call (MT : List qM) : Nat → Nat → List Value → qH → qR
  | 0 => fun _ _ _ => none
  | d + 1 => fun m as h => match MT[m]? with
    | some M => if as.length ≤ M.2.2.2.1 ∧ (as.all fun v => v.category == 1) = true then q_run M (q_call MT d) 0 (as ++ List.replicate (M.2.2.2.1 - as.length) q_junk) [] h else none
    | none => none
