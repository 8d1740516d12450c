/-! A small machine over the kit's words: cells by their numbers, linked code, one method at a time. -/
abbrev qH : Type := List va_E
abbrev qO : Type := (Option Value) ⊕ (Nat × Nat)
abbrev qR : Type := Option (qO × qH)
/-- what a constant pool's entry means: kind and three numbers -/
abbrev qL : Type := Nat × Nat × Nat × Nat
/-- a method: code, links, handlers (from, to, at, kind of throw), locals, boolean answer -/
abbrev qM : Type := List (Nat × Instr × Nat) × List (Nat × qL) × List (Nat × Nat × Nat × Nat) × Nat × Bool
def q_junk : Value := .double 0
def q_in (i : Int32) (n : Nat) : Bool := !(decide (i < 0)) && decide (i.toNatClampNeg < n)
/-- a reference's cell number -/
def q_ref (v : Value) (k : Nat → qR) : qR := match v with
  | .ref a => k a
  | _ => none
def q_int (v : Value) (k : Int32 → qR) : qR := match v with
  | .int x => k x
  | _ => none
def q_obj (h : qH) (v : Value) (ci : Nat) (k : Nat → List Value → qR) : qR := match v with
  | .ref a => match h[a]? with
    | some (.inr (c, fs)) => if c = ci then k a fs else none
    | _ => none
  | _ => none
def q_gI (h : qH) (v : Value) (ci f : Nat) (k : Int32 → qR) : qR := q_obj h v ci fun _ fs => match fs[f]? with
  | some (.int x) => k x
  | _ => none
/-- a reference that isn't null -/
def q_gR (h : qH) (v : Value) (ci f : Nat) (k : Nat → qR) : qR := q_obj h v ci fun _ fs => match fs[f]? with
  | some (.ref a) => k a
  | _ => none
/-- null, or a reference -/
def q_gN (h : qH) (v : Value) (ci f : Nat) (k0 : qR) (k1 : Nat → qR) : qR := q_obj h v ci fun _ fs => match fs[f]? with
  | some .null => k0
  | some (.ref a) => k1 a
  | _ => none
def q_pV (h : qH) (v : Value) (ci f : Nat) (w : Value) (k : qH → qR) : qR := q_obj h v ci fun a fs =>
  if 2 ≤ a ∧ f < fs.length then k (h.set a (.inr (ci, fs.set f w))) else none
/-- an array of whole numbers of kind t -/
def q_arr (h : qH) (v : Value) (t : Nat) (k : Nat → Nat → (Nat → Int32) → qR) : qR := match v with
  | .ref a => match h[a]? with
    | some (.inl (c, n, .inl f)) => if c = t then k a n f else none
    | _ => none
  | _ => none
def q_ald (h : qH) (v : Value) (t : Nat) (i : Int32) (k : Int32 → qR) : qR := q_arr h v t fun _ n f => if q_in i n = true then k (f i.toNatClampNeg) else none
def q_ast (h : qH) (v : Value) (t : Nat) (i x : Int32) (k : qH → qR) : qR := q_arr h v t fun a n f =>
  if 2 ≤ a ∧ q_in i n = true then k (h.set a (.inl (t, n, .inl (upd f i.toNatClampNeg x)))) else none
/-- bytes and booleans share their instructions -/
def q_bld (h : qH) (v : Value) (i : Int32) (k : Int32 → qR) : qR := match v with
  | .ref a => match h[a]? with
    | some (.inl (c, n, .inl f)) => if (c = 2 ∨ c = 3) ∧ q_in i n = true then k (f i.toNatClampNeg) else none
    | _ => none
  | _ => none
def q_bst (h : qH) (v : Value) (i x : Int32) (k : qH → qR) : qR := match v with
  | .ref a => match h[a]? with
    | some (.inl (c, n, .inl f)) => if 2 ≤ a ∧ (c = 2 ∨ (c = 3 ∧ (x = 0 ∨ x = 1))) ∧ q_in i n = true then k (h.set a (.inl (c, n, .inl (upd f i.toNatClampNeg (if c = 2 then vp_nar .byte x else x))))) else none
    | _ => none
  | _ => none
def q_lld (h : qH) (v : Value) (i : Int32) (k : Int64 → qR) : qR := match v with
  | .ref a => match h[a]? with
    | some (.inl (c, n, .inr (.inl f))) => if c = 1 ∧ q_in i n = true then k (f i.toNatClampNeg) else none
    | _ => none
  | _ => none
def q_lst (h : qH) (v : Value) (i : Int32) (x : Int64) (k : qH → qR) : qR := match v with
  | .ref a => match h[a]? with
    | some (.inl (c, n, .inr (.inl f))) => if 2 ≤ a ∧ c = 1 ∧ q_in i n = true then k (h.set a (.inl (1, n, .inr (.inl (vp_updL f i.toNatClampNeg x))))) else none
    | _ => none
  | _ => none
def q_rld (h : qH) (v : Value) (i : Int32) (k0 : qR) (k1 : Nat → qR) : qR := match v with
  | .ref a => match h[a]? with
    | some (.inl (c, n, .inr (.inr (.inr (.inr f))))) => if c = 4 ∧ q_in i n = true then (match f i.toNatClampNeg with
      | none => k0
      | some b => k1 b) else none
    | _ => none
  | _ => none
def q_rst (h : qH) (v : Value) (i : Int32) (w : Value) (k : qH → qR) : qR := match v, w with
  | .ref a, .ref b => match h[a]? with
    | some (.inl (c, n, .inr (.inr (.inr (.inr f))))) => if 2 ≤ a ∧ c = 4 ∧ q_in i n = true then (match h[b]? with
      | some (.inr (4, _)) => k (h.set a (.inl (4, n, .inr (.inr (.inr (.inr (va_up f i.toNatClampNeg (some b))))))))
      | _ => none) else none
    | _ => none
  | _, _ => none
def q_len (h : qH) (v : Value) (k : Int32 → qR) : qR := match v with
  | .ref a => match h[a]? with
    | some (.inl (c, n, _)) => if c < 5 then k (Int32.ofNat n) else none
    | _ => none
  | _ => none
/-- System.arraycopy between two int arrays -/
def q_cpy (h : qH) (sv : Value) (sp : Int32) (dv : Value) (dp n : Int32) (k : qH → qR) : qR := q_arr h sv 0 fun _ ns f => q_arr h dv 0 fun b nd g =>
  if sv ≠ dv ∧ 2 ≤ b ∧ 0 ≤ sp ∧ 0 ≤ dp ∧ 0 ≤ n ∧ sp.toNatClampNeg + n.toNatClampNeg ≤ ns ∧ dp.toNatClampNeg + n.toNatClampNeg ≤ nd then k (h.set b (.inl (0, nd, .inl (va_cpy f g sp.toNatClampNeg dp.toNatClampNeg n.toNatClampNeg)))) else none
/-- a new array; kinds: 0 int, 1 long, 2 byte, 3 boolean, 4 references -/
def q_mk (t N : Nat) : va_E := .inl (t, N, match t with
  | 1 => .inr (.inl fun _ => 0)
  | 4 => .inr (.inr (.inr (.inr fun _ => none)))
  | _ => .inl fun _ => 0)
def q_nar (h : qH) (t : Nat) (n : Int32) (k : Nat → qH → qR) : qR := if 0 ≤ n ∧ n.toNatClampNeg ≤ 100000 then k h.length (h ++ [q_mk t n.toNatClampNeg]) else none
def q_fnd (hh : List (Nat × Nat × Nat × Nat)) (pc E : Nat) : Option Nat := match hh with
  | [] => none
  | (a, b, t, e) :: r => if a ≤ pc ∧ pc < b ∧ e = E then some t else q_fnd r pc E
/-- behind a call: a throw that is caught here (the thing thrown goes into a local that nobody reads), or goes on to the caller -/
def q_thr (M : qM) (pc E q : Nat) (L : List Value) (h : qH) (k : Nat → List Value → qR) : qR := if 2 ≤ E then none else match M.2.2.1 with
  | [] => some (.inr (E, q), h)
  | hh => match q_fnd hh pc E with
    | some t => match M.1.lookup t with
      | some (.astore_n n, _) => if n.val < L.length then k (t + 1) (L.set n.val q_junk) else none
      | some (.astore n, _) => if n < L.length then k (t + 2) (L.set n q_junk) else none
      | _ => none
    | none => none
def q_rV (r : qR) (kx : Nat → Nat → qH → qR) (k : qH → qR) : qR := match r with
  | some (.inl none, h) => k h
  | some (.inr (E, q), h) => kx E q h
  | _ => none
def q_rI (r : qR) (kx : Nat → Nat → qH → qR) (k : Int32 → qH → qR) : qR := match r with
  | some (.inl (some (.int x)), h) => k x h
  | some (.inr (E, q), h) => kx E q h
  | _ => none
def q_rR (r : qR) (kx : Nat → Nat → qH → qR) (k : Value → qH → qR) : qR := match r with
  | some (.inl (some (.ref a)), h) => k (.ref a) h
  | some (.inr (E, q), h) => kx E q h
  | _ => none
def q_nul (v : Value) (k0 k1 : qR) : qR := match v with
  | .null => k0
  | .ref _ => k1
  | .float _ => k1
  | _ => none
def q_str : Nat → List Nat → List (List Nat) → Option (List Nat) := fun i _ T => T[i]?
def q_cat (st : List Value) : Nat := (st.map fun v => v.category).sum
