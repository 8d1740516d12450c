theorem nt_c {r : qR} : q_nat (fun _ => r) := Or.inl ⟨r, fun _ => rfl⟩
theorem nt_k {pc : Nat} {L st : List Value} {h : qH} : q_nat (fun k => k pc L st h) := Or.inr ⟨pc, L, st, h, fun _ => rfl⟩
theorem nt_if {c : Prop} [Decidable c] {F G : qK → qR} (hF : q_nat F) (hG : q_nat G) : q_nat (fun k => if c then F k else G k) := by
  by_cases hc : c
  · simpa only [if_pos hc] using hF
  · simpa only [if_neg hc] using hG
theorem nt_obj {h : qH} {v : Value} {ci : Nat} {G : Nat → List Value → qK → qR} (hG : ∀ a fs, q_nat (G a fs)) : q_nat (fun k => q_obj h v ci (fun a fs => G a fs k)) := by
  unfold q_obj
  cases v
  case ref a =>
    dsimp only
    rcases h[a]? with _ | (x | ⟨c, fs⟩)
    · exact nt_c
    · exact nt_c
    · exact nt_if (hG _ _) nt_c
  all_goals exact nt_c
theorem nt_gI {h : qH} {v : Value} {ci f : Nat} {G : Int32 → qK → qR} (hG : ∀ x, q_nat (G x)) : q_nat (fun k => q_gI h v ci f (fun x => G x k)) := by
  unfold q_gI
  refine nt_obj fun a fs => ?_
  rcases fs[f]? with _ | w
  · exact nt_c
  · cases w
    case int x => exact hG x
    all_goals exact nt_c
theorem nt_gR {h : qH} {v : Value} {ci f : Nat} {G : Nat → qK → qR} (hG : ∀ x, q_nat (G x)) : q_nat (fun k => q_gR h v ci f (fun x => G x k)) := by
  unfold q_gR
  refine nt_obj fun a fs => ?_
  rcases fs[f]? with _ | w
  · exact nt_c
  · cases w
    case ref x => exact hG x
    all_goals exact nt_c
theorem nt_gN {h : qH} {v : Value} {ci f : Nat} {F : qK → qR} {G : Nat → qK → qR} (hF : q_nat F) (hG : ∀ x, q_nat (G x)) : q_nat (fun k => q_gN h v ci f (F k) (fun x => G x k)) := by
  unfold q_gN
  refine nt_obj fun a fs => ?_
  rcases fs[f]? with _ | w
  · exact nt_c
  · cases w
    case ref x => exact hG x
    case null => exact hF
    all_goals exact nt_c
theorem nt_pV {h : qH} {v : Value} {ci f : Nat} {w : Value} {G : qH → qK → qR} (hG : ∀ x, q_nat (G x)) : q_nat (fun k => q_pV h v ci f w (fun x => G x k)) := by
  unfold q_pV
  exact nt_obj fun a fs => nt_if (hG _) nt_c
theorem nt_arr {h : qH} {v : Value} {t : Nat} {G : Nat → Nat → (Nat → Int32) → qK → qR} (hG : ∀ a n f, q_nat (G a n f)) : q_nat (fun k => q_arr h v t (fun a n f => G a n f k)) := by
  unfold q_arr
  cases v
  case ref a =>
    dsimp only
    rcases h[a]? with _ | (⟨c, n, (f | f)⟩ | x)
    · exact nt_c
    · exact nt_if (hG _ _ _) nt_c
    · exact nt_c
    · exact nt_c
  all_goals exact nt_c
theorem nt_ald {h : qH} {v : Value} {t : Nat} {i : Int32} {G : Int32 → qK → qR} (hG : ∀ x, q_nat (G x)) : q_nat (fun k => q_ald h v t i (fun x => G x k)) := by
  unfold q_ald
  exact nt_arr fun a n f => nt_if (hG _) nt_c
theorem nt_ast {h : qH} {v : Value} {t : Nat} {i x : Int32} {G : qH → qK → qR} (hG : ∀ x, q_nat (G x)) : q_nat (fun k => q_ast h v t i x (fun x => G x k)) := by
  unfold q_ast
  exact nt_arr fun a n f => nt_if (hG _) nt_c
theorem nt_bld {h : qH} {v : Value} {i : Int32} {G : Int32 → qK → qR} (hG : ∀ x, q_nat (G x)) : q_nat (fun k => q_bld h v i (fun x => G x k)) := by
  unfold q_bld
  cases v
  case ref a =>
    dsimp only
    rcases h[a]? with _ | (⟨c, n, (f | f)⟩ | x)
    · exact nt_c
    · exact nt_if (hG _) nt_c
    · exact nt_c
    · exact nt_c
  all_goals exact nt_c
theorem nt_bst {h : qH} {v : Value} {i x : Int32} {G : qH → qK → qR} (hG : ∀ x, q_nat (G x)) : q_nat (fun k => q_bst h v i x (fun x => G x k)) := by
  unfold q_bst
  cases v
  case ref a =>
    dsimp only
    rcases h[a]? with _ | (⟨c, n, (f | f)⟩ | x)
    · exact nt_c
    · exact nt_if (hG _) nt_c
    · exact nt_c
    · exact nt_c
  all_goals exact nt_c
theorem nt_lld {h : qH} {v : Value} {i : Int32} {G : Int64 → qK → qR} (hG : ∀ x, q_nat (G x)) : q_nat (fun k => q_lld h v i (fun x => G x k)) := by
  unfold q_lld
  cases v
  case ref a =>
    dsimp only
    rcases h[a]? with _ | (⟨c, n, (f | (f | f))⟩ | x)
    · exact nt_c
    · exact nt_c
    · exact nt_if (hG _) nt_c
    · exact nt_c
    · exact nt_c
  all_goals exact nt_c
theorem nt_lst {h : qH} {v : Value} {i : Int32} {x : Int64} {G : qH → qK → qR} (hG : ∀ x, q_nat (G x)) : q_nat (fun k => q_lst h v i x (fun x => G x k)) := by
  unfold q_lst
  cases v
  case ref a =>
    dsimp only
    rcases h[a]? with _ | (⟨c, n, (f | (f | f))⟩ | x)
    · exact nt_c
    · exact nt_c
    · exact nt_if (hG _) nt_c
    · exact nt_c
    · exact nt_c
  all_goals exact nt_c
theorem nt_rld {h : qH} {v : Value} {i : Int32} {F : qK → qR} {G : Nat → qK → qR} (hF : q_nat F) (hG : ∀ x, q_nat (G x)) : q_nat (fun k => q_rld h v i (F k) (fun x => G x k)) := by
  unfold q_rld
  cases v
  case ref a =>
    dsimp only
    rcases h[a]? with _ | (⟨c, n, (f | (f | (f | (f | f))))⟩ | x)
    · exact nt_c
    · exact nt_c
    · exact nt_c
    · exact nt_c
    · exact nt_c
    · refine nt_if ?_ nt_c
      rcases f i.toNatClampNeg with _ | b
      · exact hF
      · exact hG _
    · exact nt_c
  all_goals exact nt_c
theorem nt_rst {h : qH} {v : Value} {i : Int32} {w : Value} {G : qH → qK → qR} (hG : ∀ x, q_nat (G x)) : q_nat (fun k => q_rst h v i w (fun x => G x k)) := by
  unfold q_rst
  cases v
  case ref a =>
    cases w
    case ref b =>
      dsimp only
      rcases h[a]? with _ | (⟨c, n, (f | (f | (f | (f | f))))⟩ | x)
      · exact nt_c
      · exact nt_c
      · exact nt_c
      · exact nt_c
      · exact nt_c
      · refine nt_if ?_ nt_c
        rcases h[b]? with _ | (y | ⟨c2, fs⟩)
        · exact nt_c
        · exact nt_c
        · rcases c2 with _ | _ | _ | _ | _ | c2
          · exact nt_c
          · exact nt_c
          · exact nt_c
          · exact nt_c
          · exact hG _
          · exact nt_c
      · exact nt_c
    all_goals exact nt_c
  all_goals (cases w <;> exact nt_c)
theorem nt_len {h : qH} {v : Value} {G : Int32 → qK → qR} (hG : ∀ x, q_nat (G x)) : q_nat (fun k => q_len h v (fun x => G x k)) := by
  unfold q_len
  cases v
  case ref a =>
    dsimp only
    rcases h[a]? with _ | (⟨c, n, f⟩ | x)
    · exact nt_c
    · exact nt_if (hG _) nt_c
    · exact nt_c
  all_goals exact nt_c
theorem nt_cpy {h : qH} {sv dv : Value} {sp dp n : Int32} {G : qH → qK → qR} (hG : ∀ x, q_nat (G x)) : q_nat (fun k => q_cpy h sv sp dv dp n (fun x => G x k)) := by
  unfold q_cpy
  exact nt_arr fun a n f => nt_arr fun b m g => nt_if (hG _) nt_c
theorem nt_nar {h : qH} {t : Nat} {n : Int32} {G : Nat → qH → qK → qR} (hG : ∀ a x, q_nat (G a x)) : q_nat (fun k => q_nar h t n (fun a x => G a x k)) := by
  unfold q_nar
  exact nt_if (hG _ _) nt_c
theorem nt_thr {M : qM} {pc E q : Nat} {L : List Value} {h : qH} {G : Nat → List Value → qK → qR} (hG : ∀ a x, q_nat (G a x)) : q_nat (fun k => q_thr M pc E q L h (fun a x => G a x k)) := by
  unfold q_thr
  refine nt_if nt_c ?_
  rcases M.2.2.1 with _ | ⟨x, hh⟩
  · exact nt_c
  · dsimp only
    rcases q_fnd (x :: hh) pc E with _ | t
    · exact nt_c
    · dsimp only
      rcases List.lookup t M.1 with _ | ⟨i, len⟩
      · exact nt_c
      · cases i <;> first | exact nt_c | exact nt_if (hG _ _) nt_c
theorem nt_rV {r : qR} {K : Nat → Nat → qH → qK → qR} {G : qH → qK → qR} (hK : ∀ a b x, q_nat (K a b x)) (hG : ∀ x, q_nat (G x)) : q_nat (fun k => q_rV r (fun a b x => K a b x k) (fun x => G x k)) := by
  unfold q_rV
  rcases r with _ | ⟨(_ | v) | ⟨E, q⟩, h⟩
  · exact nt_c
  · exact hG _
  · exact nt_c
  · exact hK _ _ _
theorem nt_rI {r : qR} {K : Nat → Nat → qH → qK → qR} {G : Int32 → qH → qK → qR} (hK : ∀ a b x, q_nat (K a b x)) (hG : ∀ v x, q_nat (G v x)) : q_nat (fun k => q_rI r (fun a b x => K a b x k) (fun v x => G v x k)) := by
  unfold q_rI
  rcases r with _ | ⟨(_ | v) | ⟨E, q⟩, h⟩
  · exact nt_c
  · exact nt_c
  · cases v
    case int x => exact hG _ _
    all_goals exact nt_c
  · exact hK _ _ _
theorem nt_rR {r : qR} {K : Nat → Nat → qH → qK → qR} {G : Value → qH → qK → qR} (hK : ∀ a b x, q_nat (K a b x)) (hG : ∀ v x, q_nat (G v x)) : q_nat (fun k => q_rR r (fun a b x => K a b x k) (fun v x => G v x k)) := by
  unfold q_rR
  rcases r with _ | ⟨(_ | v) | ⟨E, q⟩, h⟩
  · exact nt_c
  · exact nt_c
  · cases v
    case ref x => exact hG _ _
    all_goals exact nt_c
  · exact hK _ _ _
theorem nt_nul {v : Value} {F G : qK → qR} (hF : q_nat F) (hG : q_nat G) : q_nat (fun k => q_nul v (F k) (G k)) := by
  unfold q_nul
  cases v
  case null => exact hF
  case ref => exact hG
  case float => exact hG
  all_goals exact nt_c
theorem nt_slen {v : Value} {G : Int32 → qK → qR} (hG : ∀ x, q_nat (G x)) : q_nat (fun k => q_slen v (fun x => G x k)) := by
  unfold q_slen
  cases v
  case float i =>
    dsimp only
    rcases q_strs[i.toNat]? with _ | t
    · exact nt_c
    · exact hG _
  all_goals exact nt_c
theorem nt_schr {v : Value} {j : Int32} {G : Int32 → qK → qR} (hG : ∀ x, q_nat (G x)) : q_nat (fun k => q_schr v j (fun x => G x k)) := by
  unfold q_schr
  cases v
  case float i =>
    dsimp only
    rcases q_strs[i.toNat]? with _ | t
    · exact nt_c
    · exact nt_if (hG _) nt_c
  all_goals exact nt_c
theorem nt_boo {b : Bool} {x : Int32} {G : Int32 → qK → qR} (hG : ∀ x, q_nat (G x)) : q_nat (fun k => q_boo b x (fun x => G x k)) := by
  unfold q_boo
  cases b
  · exact hG _
  · exact nt_if (hG _) (nt_if (hG _) nt_c)
theorem nt_rcv {h : qH} {v : Value} {ci : Nat} {F : qK → qR} (hF : q_nat F) : q_nat (fun k => q_rcv h v ci (F k)) := by
  unfold q_rcv
  exact nt_obj fun _ _ => hF
theorem nt_back {M : qM} {t pc : Nat} {L r : List Value} {a : qR} : q_nat (fun k => q_back M t pc L r k a) := by
  unfold q_back
  rcases t with _ | _ | t
  · exact nt_rV (fun _ _ _ => nt_thr fun _ _ => nt_k) fun _ => nt_k
  · exact nt_rI (fun _ _ _ => nt_thr fun _ _ => nt_k) fun _ _ => nt_k
  · exact nt_rR (fun _ _ _ => nt_thr fun _ _ => nt_k) fun _ _ => nt_k
theorem nt_sto {i pc len : Nat} {L : List Value} {v : Value} {r : List Value} {h : qH} : q_nat (fun k => q_sto i pc len L v r h k) := by
  unfold q_sto
  exact nt_if nt_k nt_c
theorem nt_ild {i pc len : Nat} {L st : List Value} {h : qH} : q_nat (fun k => q_ild i pc len L st h k) := by
  unfold q_ild
  rcases L[i]? with _ | v
  · exact nt_c
  · cases v
    case int x => exact nt_k
    all_goals exact nt_c
theorem nt_rdl {i pc len : Nat} {L st : List Value} {h : qH} : q_nat (fun k => q_rdl i pc len L st h k) := by
  unfold q_rdl
  rcases L[i]? with _ | v
  · exact nt_c
  · cases v
    case ref => exact nt_k
    case float => exact nt_k
    case null => exact nt_k
    all_goals exact nt_c
theorem nt_ast1 {i pc len : Nat} {L st : List Value} {h : qH} : q_nat (fun k => q_ast1 i pc len L st h k) := by
  unfold q_ast1
  rcases st with _ | ⟨v, r⟩
  · exact nt_c
  · cases v
    case ref => exact nt_sto
    case null => exact nt_sto
    all_goals exact nt_c
theorem nt_ist1 {i pc len : Nat} {L st : List Value} {h : qH} : q_nat (fun k => q_ist1 i pc len L st h k) := by
  unfold q_ist1
  rcases st with _ | ⟨v, r⟩
  · exact nt_c
  · cases v
    case int => exact nt_sto
    all_goals exact nt_c
theorem nt_1 {st : List Value} {G : Int32 → List Value → qK → qR} (hG : ∀ x r, q_nat (G x r)) : q_nat (fun k => match st with
  | .int x :: r => G x r k
  | _ => none) := by
  rcases st with _ | ⟨v, r⟩
  · exact nt_c
  · cases v
    case int => exact hG _ _
    all_goals exact nt_c
theorem nt_2 {st : List Value} {G : Int32 → Int32 → List Value → qK → qR} (hG : ∀ x y r, q_nat (G x y r)) : q_nat (fun k => match st with
  | .int y :: .int x :: r => G x y r k
  | _ => none) := by
  rcases st with _ | ⟨v, _ | ⟨w, r⟩⟩
  · exact nt_c
  · cases v <;> exact nt_c
  · cases v
    case int =>
      cases w
      case int => exact hG _ _ _
      all_goals exact nt_c
    all_goals exact nt_c
theorem nt_v {st : List Value} {G : Value → List Value → qK → qR} (hG : ∀ x r, q_nat (G x r)) : q_nat (fun k => match st with
  | v :: r => G v r k
  | _ => none) := by
  rcases st with _ | ⟨v, r⟩
  · exact nt_c
  · exact hG _ _
theorem nt_iv {st : List Value} {G : Int32 → Value → List Value → qK → qR} (hG : ∀ x v r, q_nat (G x v r)) : q_nat (fun k => match st with
  | .int j :: v :: r => G j v r k
  | _ => none) := by
  rcases st with _ | ⟨v, _ | ⟨w, r⟩⟩
  · exact nt_c
  · cases v <;> exact nt_c
  · cases v
    case int => exact hG _ _ _
    all_goals exact nt_c
theorem nt_iiv {st : List Value} {G : Int32 → Int32 → Value → List Value → qK → qR} (hG : ∀ x y v r, q_nat (G x y v r)) : q_nat (fun k => match st with
  | .int x :: .int j :: v :: r => G x j v r k
  | _ => none) := by
  rcases st with _ | ⟨v, _ | ⟨w, _ | ⟨u, r⟩⟩⟩
  · exact nt_c
  · cases v <;> exact nt_c
  · cases v
    case int => cases w <;> exact nt_c
    all_goals exact nt_c
  · cases v
    case int =>
      cases w
      case int => exact hG _ _ _ _
      all_goals exact nt_c
    all_goals exact nt_c
