/-- a new object of a class -/
def q_dfl : List (List Value) := [[.null, .null, .null, .null, .null, .null, .null, .null, .int 0, .int 0, .int 0, .int 0, .int 0], [.null, .null, .null, .null, .null, .null, .null, .int 0, .int 0], [.null, .null, .null, .null, .null, .null, .int 0, .int 0, .int 0, .int 0, .int 0], [.null, .null, .null, .null, .null, .null, .int 0, .int 0, .int 0, .int 0], [.null, .null, .int 0], [.null, .null, .null, .null, .int 0, .int 0], [.int 0, .int 0, .int 0, .int 0, .int 0, .null, .null, .null, .null, .null, .null], [.null, .null, .int 0, .int 0], [.null, .null, .null, .int 0, .int 0, .int 0, .int 0, .int 0], [.null, .int 0, .int 0, .int 0, .int 0, .int 0, .int 0, .int 0], [.null, .null, .null, .null, .null, .null, .null, .null, .null, .null, .null, .null, .null, .null, .int 0, .int 0, .int 0, .int 0], [.int 0, .null, .int 0, .int 0, .int 0, .int 0, .int 0, .int 0, .int 0, .null, .null, .null, .null, .null, .null, .null, .int 0, .int 0, .int 0, .int 0, .int 0, .int 0, .int 0, .int 0, .int 0, .int 0, .null, .null, .null, .null, .null, .int 0, .int 0, .null, .null, .null, .int 0, .int 0, .int 0, .int 0, .int 0, .int 0, .null, .null, .null, .null, .null, .null, .int 0, .null, .null, .null, .int 0, .int 0, .null, .null, .int 0, .null, .int 0, .int 0, .null, .int 0]]
/-- the texts that the code names -/
def q_strs : List (List Nat) := [[104, 111, 117, 115, 101], [119, 105, 110, 107], [99, 117, 112], [102, 101, 108, 116], [110, 97, 112], [108, 101, 97, 115, 116], [109, 111, 115, 116], [112, 114, 101, 115, 115], [115, 105, 122, 101], [100, 97, 109, 112], [117, 110, 100, 101, 114], [115, 104, 111, 116, 115], [99, 101, 108, 108], [100, 97, 121], [99, 111, 105, 110, 115], [102, 108, 105, 99, 107], [98, 97, 99, 107], [115, 104, 97, 107, 101], [97, 103, 97, 105, 110]]
abbrev qK : Type := Nat → List Value → List Value → qH → qR
def q_slen (v : Value) (k : Int32 → qR) : qR := match v with
  | .float i => match q_strs[i.toNat]? with
    | some t => k (Int32.ofNat t.length)
    | none => none
  | _ => none
def q_schr (v : Value) (j : Int32) (k : Int32 → qR) : qR := match v with
  | .float i => match q_strs[i.toNat]? with
    | some t => if q_in j t.length = true then k (Int32.ofNat (t.getD j.toNatClampNeg 0)) else none
    | none => none
  | _ => none
def q_lk (M : qM) (i : Nat) : Option qL := M.2.1.lookup i
def q_tgt (pc : Nat) (off : Int) : Nat := ((pc : Int) + off).toNat
def q_cmp (c : Jvm.ClassFile.Cond) (x y : Int32) : Bool := match c with
  | .eq => decide (x = y)
  | .ne => !(decide (x = y))
  | .lt => decide (x < y)
  | .ge => decide (y ≤ x)
  | .gt => decide (y < x)
  | .le => decide (x ≤ y)
def q_boo (b : Bool) (x : Int32) (k : Int32 → qR) : qR := match b with
  | false => k x
  | true => if x = 0 then k 0 else if x = 1 then k 1 else none
def q_lsw (ps : List (Int × Int)) (d x : Int) : Int := match ps with
  | [] => d
  | (a, o) :: r => if a = x then o else q_lsw r d x
/-- getfield -/
def q_getf (M : qM) (i pc : Nat) (L st : List Value) (h : qH) (k : qK) : qR := match q_lk M i, st with
  | some (0, ci, f, 1), v :: r => q_gI h v ci f fun x => k (pc + 3) L (.int x :: r) h
  | some (0, ci, f, 2), v :: r => q_gR h v ci f fun a => k (pc + 3) L (.ref a :: r) h
  | some (0, ci, f, 0), v :: r => q_gN h v ci f (k (pc + 3) L (.null :: r) h) fun a => k (pc + 3) L (.ref a :: r) h
  | some (1, ci, f, 1), v :: r => q_gI h v ci f fun x => k (pc + 3) L (.int x :: r) h
  | some (1, ci, f, 2), v :: r => q_gR h v ci f fun a => k (pc + 3) L (.ref a :: r) h
  | some (1, ci, f, 0), v :: r => q_gN h v ci f (k (pc + 3) L (.null :: r) h) fun a => k (pc + 3) L (.ref a :: r) h
  | _, _ => none
def q_putf (M : qM) (i pc : Nat) (L st : List Value) (h : qH) (k : qK) : qR := match q_lk M i, st with
  | some (0, ci, f, 1), .int x :: v :: r => q_pV h v ci f (.int x) fun h1 => k (pc + 3) L r h1
  | some (0, ci, f, 2), .ref b :: v :: r => q_pV h v ci f (.ref b) fun h1 => k (pc + 3) L r h1
  | some (0, ci, f, 0), .ref b :: v :: r => q_pV h v ci f (.ref b) fun h1 => k (pc + 3) L r h1
  | some (0, ci, f, 0), .null :: v :: r => q_pV h v ci f .null fun h1 => k (pc + 3) L r h1
  | some (1, ci, f, 1), .int x :: v :: r => q_pV h v ci f (.int x) fun h1 => k (pc + 3) L r h1
  | _, _ => none
/-- a call's answer goes on the stack -/
def q_back (M : qM) (t pc : Nat) (L r : List Value) (k : qK) (a : qR) : qR := match t with
  | 0 => q_rV a (fun E q h1 => q_thr M pc E q L h1 fun at1 L1 => k at1 L1 [] h1) fun h1 => k (pc + 3) L r h1
  | 1 => q_rI a (fun E q h1 => q_thr M pc E q L h1 fun at1 L1 => k at1 L1 [] h1) fun x h1 => k (pc + 3) L (.int x :: r) h1
  | _ => q_rR a (fun E q h1 => q_thr M pc E q L h1 fun at1 L1 => k at1 L1 [] h1) fun w h1 => k (pc + 3) L (w :: r) h1
def q_rcv (h : qH) (v : Value) (ci : Nat) (k : qR) : qR := q_obj h v ci fun _ _ => k
def q_virt (M : qM) (call : Nat → List Value → qH → qR) (i pc : Nat) (L st : List Value) (h : qH) (k : qK) : qR := match q_lk M i with
  | some (2, mi, n, ct) => match (st.take (n + 1)).reverse with
    | v :: as => if as.length = n ∧ q_cat (st.drop (n + 1)) ≤ 8 then q_rcv h v (ct / 4) (q_back M (ct % 4) pc L (st.drop (n + 1)) k (call mi (v :: as) h)) else none
    | [] => none
  | some (5, _, _, _) => match st with
    | v :: r => if q_cat r ≤ 8 then q_slen v fun x => k (pc + 3) L (.int x :: r) h else none
    | _ => none
  | some (6, _, _, _) => match st with
    | .int j :: v :: r => if q_cat r ≤ 8 then q_schr v j fun x => k (pc + 3) L (.int x :: r) h else none
    | _ => none
  | _ => none
def q_stat (M : qM) (call : Nat → List Value → qH → qR) (i pc : Nat) (L st : List Value) (h : qH) (k : qK) : qR := match q_lk M i with
  | some (3, mi, n, ct) => if n ≤ st.length ∧ q_cat (st.drop n) ≤ 8 then q_back M (ct % 4) pc L (st.drop n) k (call mi (st.take n).reverse h) else none
  | some (7, _, _, _) => match st with
    | .int y :: .int x :: r => if q_cat r ≤ 8 then k (pc + 3) L (.int (if x < y then y else x) :: r) h else none
    | _ => none
  | some (8, _, _, _) => match st with
    | .int y :: .int x :: r => if q_cat r ≤ 8 then k (pc + 3) L (.int (if y < x then y else x) :: r) h else none
    | _ => none
  | some (9, _, _, _) => match st with
    | .int n :: .int dp :: d :: .int sp :: s :: r => if q_cat r ≤ 8 then q_cpy h s sp d dp n fun h1 => k (pc + 3) L r h1 else none
    | _ => none
  | _ => none
def q_spec (M : qM) (call : Nat → List Value → qH → qR) (i pc : Nat) (L st : List Value) (h : qH) (k : qK) : qR := match q_lk M i with
  | some (4, mi, n, ci) => match (st.take (n + 1)).reverse with
    | v :: as => if as.length = n ∧ q_cat (st.drop (n + 1)) ≤ 8 then q_rcv h v ci (q_rV (call mi (v :: as) h) (fun _ _ _ => none) fun h1 => k (pc + 3) L (st.drop (n + 1)) h1) else none
    | [] => none
  | some (10, _, _, _) => match st with
    | .ref _ :: r => if q_cat r ≤ 8 then k (pc + 3) L r h else none
    | _ => none
  | some (17, mi, n, ci) => match (st.take (n + 1)).reverse with
    | v :: as => if as.length = n ∧ q_cat (st.drop (n + 1)) ≤ 8 then q_rcv h v ci (q_rV (call mi (v :: as) h) (fun _ _ _ => none) fun h1 => k (pc + 3) L (st.drop (n + 1)) h1) else none
    | [] => none
  | _ => none
def q_new (M : qM) (i pc : Nat) (L st : List Value) (h : qH) (k : qK) : qR := match q_lk M i with
  | some (11, ci, _, _) => match q_dfl[ci]? with
    | some fs => k (pc + 3) L (.ref h.length :: st) (h ++ [.inr (ci, fs)])
    | none => none
  | some (12, E, _, _) => match M.2.2.1 with
    | [] => if q_cat st ≤ 8 then some (.inr (E, h.length), h ++ [.inr (12 + E, [])]) else none
    | _ => none
  | _ => none
def q_ldc (M : qM) (i pc : Nat) (L st : List Value) (h : qH) (k : qK) (len : Nat) : qR := match q_lk M i with
  | some (14, v, _, _) => k (pc + len) L (.int (Int32.ofNat v) :: st) h
  | some (15, j, _, _) => k (pc + len) L (.float (UInt32.ofNat j) :: st) h
  | _ => none
def q_sto (i pc len : Nat) (L : List Value) (v : Value) (r : List Value) (h : qH) (k : qK) : qR := if i < L.length then k (pc + len) (L.set i v) r h else none
/-- int of a local -/
def q_ild (i pc len : Nat) (L st : List Value) (h : qH) (k : qK) : qR := match L[i]? with
  | some (.int x) => k (pc + len) L (.int x :: st) h
  | _ => none
def q_rdl (i pc len : Nat) (L st : List Value) (h : qH) (k : qK) : qR := match L[i]? with
  | some (.ref x) => k (pc + len) L (.ref x :: st) h
  | some (.float x) => k (pc + len) L (.float x :: st) h
  | some .null => k (pc + len) L (.null :: st) h
  | _ => none
def q_ast1 (i pc len : Nat) (L st : List Value) (h : qH) (k : qK) : qR := match st with
  | .ref a :: r => q_sto i pc len L (.ref a) r h k
  | .null :: r => q_sto i pc len L .null r h k
  | _ => none
def q_ist1 (i pc len : Nat) (L st : List Value) (h : qH) (k : qK) : qR := match st with
  | .int x :: r => q_sto i pc len L (.int x) r h k
  | _ => none
def q_atk : ArrayType → Nat
  | .int => 0
  | .long => 1
  | .byte => 2
  | .boolean => 3
  | _ => 9
/-- arithmetic on the two upper ints -/
def q_two (pc : Nat) (L st : List Value) (h : qH) (k : qK) (f : Int32 → Int32 → Int32) : qR := match st with
  | .int y :: .int x :: r => k (pc + 1) L (.int (f x y) :: r) h
  | _ => none
def q_one (pc : Nat) (L st : List Value) (h : qH) (k : qK) (f : Int32 → Int32) : qR := match st with
  | .int x :: r => k (pc + 1) L (.int (f x) :: r) h
  | _ => none
def q_div (pc : Nat) (L st : List Value) (h : qH) (k : qK) (f : Int32 → Int32 → Int32) : qR := match st with
  | .int y :: .int x :: r => if y = 0 then none else k (pc + 1) L (.int (f x y) :: r) h
  | _ => none
def q_iinc (i : Nat) (n : Int) (pc : Nat) (L st : List Value) (h : qH) (k : qK) : qR := match L[i]? with
  | some (.int x) => k (pc + 3) (L.set i (.int (x + Int32.ofInt n))) st h
  | _ => none
def q_ifc (c : Jvm.ClassFile.Cond) (off : Int) (pc : Nat) (L st : List Value) (h : qH) (k : qK) : qR := match st with
  | .int x :: r => if q_cmp c x 0 = true then k (q_tgt pc off) L r h else k (pc + 3) L r h
  | _ => none
def q_icm (c : Jvm.ClassFile.Cond) (off : Int) (pc : Nat) (L st : List Value) (h : qH) (k : qK) : qR := match st with
  | .int y :: .int x :: r => if q_cmp c x y = true then k (q_tgt pc off) L r h else k (pc + 3) L r h
  | _ => none
def q_nll (b : Bool) (off : Int) (pc : Nat) (L st : List Value) (h : qH) (k : qK) : qR := match st with
  | v :: r => q_nul v (k (if b = true then q_tgt pc off else pc + 3) L r h) (k (if b = true then pc + 3 else q_tgt pc off) L r h)
  | _ => none
def q_tsw (d lo hi : Int) (os : Array Int) (pc : Nat) (L st : List Value) (h : qH) (k : qK) : qR := match st with
  | .int x :: r => if x.toInt < lo ∨ hi < x.toInt then k (q_tgt pc d) L r h else match os.toList[(x.toInt - lo).toNat]? with
    | some o => k (q_tgt pc o) L r h
    | none => none
  | _ => none
def q_lcp (pc : Nat) (L st : List Value) (h : qH) (k : qK) : qR := match st with
  | .long y :: .long x :: r => k (pc + 1) L (.int (lg_cmp x y) :: r) h
  | _ => none
/-- one instruction -/
def q_ei (M : qM) (call : Nat → List Value → qH → qR) (i : Instr) (len pc : Nat) (L st : List Value) (h : qH) (k : qK) : qR := match i with
  | .aload_n n => q_rdl n.val pc 1 L st h k
  | .iconst n => k (pc + 1) L (.int (Int32.ofInt n) :: st) h
  | .iload_n n => q_ild n.val pc 1 L st h k
  | .getfield i => q_getf M i pc L st h k
  | .invokevirtual i => q_virt M call i pc L st h k
  | .iload i => q_ild i pc 2 L st h k
  | .ireturn => match st with
    | [.int x] => q_boo M.2.2.2.2 x fun y => some (.inl (some (.int y)), h)
    | _ => none
  | .if_icmp c o => q_icm c o pc L st h k
  | .goto o => k (q_tgt pc o) L st h
  | .ifCond c o => q_ifc c o pc L st h k
  | .iaload => match st with
    | .int j :: v :: r => q_ald h v 0 j fun x => k (pc + 1) L (.int x :: r) h
    | _ => none
  | .bipush n => k (pc + 2) L (.int (Int8.ofInt n).toInt32 :: st) h
  | .iadd => q_two pc L st h k fun x y => x + y
  | .putfield i => q_putf M i pc L st h k
  | .istore_n n => q_ist1 n.val pc 1 L st h k
  | .istore i => q_ist1 i pc 2 L st h k
  | .invokestatic i => q_stat M call i pc L st h k
  | .iinc i n => q_iinc i n pc L st h k
  | .iastore => match st with
    | .int x :: .int j :: v :: r => q_ast h v 0 j x fun h1 => k (pc + 1) L r h1
    | _ => none
  | .return_ => match st with
    | [] => some (.inl none, h)
    | _ => none
  | .isub => q_two pc L st h k fun x y => x - y
  | .sipush n => k (pc + 3) L (.int (Int16.ofInt n).toInt32 :: st) h
  | .dup => match st with
    | v :: r => if v.category = 1 then k (pc + 1) L (v :: v :: r) h else none
    | _ => none
  | .newarray t => match st with
    | .int n :: r => if q_atk t = 9 then none else q_nar h (q_atk t) n fun a h1 => k (pc + 2) L (.ref a :: r) h1
    | _ => none
  | .imul => q_two pc L st h k fun x y => x * y
  | .i2l => match st with
    | .int x :: r => k (pc + 1) L (.long x.toInt64 :: r) h
    | _ => none
  | .ldc i => q_ldc M i pc L st h k 2
  | .ldc_w i => q_ldc M i pc L st h k 3
  | .astore i => q_ast1 i pc 2 L st h k
  | .astore_n n => q_ast1 n.val pc 1 L st h k
  | .aload i => q_rdl i pc 2 L st h k
  | .invokespecial i => q_spec M call i pc L st h k
  | .lcmp => q_lcp pc L st h k
  | .lastore => match st with
    | .long x :: .int j :: v :: r => q_lst h v j x fun h1 => k (pc + 1) L r h1
    | _ => none
  | .laload => match st with
    | .int j :: v :: r => q_lld h v j fun x => k (pc + 1) L (.long x :: r) h
    | _ => none
  | .iand => q_two pc L st h k fun x y => x &&& y
  | .ishl => q_two pc L st h k fun x y => x <<< (y &&& 31)
  | .irem => q_div pc L st h k fun x y => x - x / y * y
  | .arraylength => match st with
    | v :: r => q_len h v fun x => k (pc + 1) L (.int x :: r) h
    | _ => none
  | .ior => q_two pc L st h k fun x y => x ||| y
  | .pop => match st with
    | v :: r => if v.category = 1 then k (pc + 1) L r h else none
    | _ => none
  | .new i => q_new M i pc L st h k
  | .idiv => q_div pc L st h k fun x y => x / y
  | .dup2 => match st with
    | v :: w :: r => if v.category = 1 ∧ w.category = 1 then k (pc + 1) L (v :: w :: v :: w :: r) h else none
    | _ => none
  | .baload => match st with
    | .int j :: v :: r => q_bld h v j fun x => k (pc + 1) L (.int x :: r) h
    | _ => none
  | .ishr => q_two pc L st h k fun x y => x >>> (y &&& 31)
  | .getstatic i => match q_lk M i with
    | some (16, _, _, _) => k (pc + 3) L (.ref 1 :: st) h
    | _ => none
  | .tableswitch d lo hi os => q_tsw d lo hi os pc L st h k
  | .iushr => q_two pc L st h k fun x y => (x.toUInt32 >>> (y.toUInt32 &&& Int32.toUInt32 31)).toInt32
  | .ixor => q_two pc L st h k fun x y => x ^^^ y
  | .ifnonnull o => q_nll false o pc L st h k
  | .ifnull o => q_nll true o pc L st h k
  | .bastore => match st with
    | .int x :: .int j :: v :: r => q_bst h v j x fun h1 => k (pc + 1) L r h1
    | _ => none
  | .ineg => q_one pc L st h k fun x => -x
  | .i2c => q_one pc L st h k fun x => (x.toUInt32 % 65536).toInt32
  | .i2b => q_one pc L st h k fun x => x.toInt8.toInt32
  | .aconst_null => k (pc + 1) L (.null :: st) h
  | .lookupswitch d ps => match st with
    | .int x :: r => k (q_tgt pc (q_lsw ps.toList d x.toInt)) L r h
    | _ => none
  | .areturn => match st with
    | [.ref a] => some (.inl (some (.ref a)), h)
    | _ => none
  | .anewarray i => match q_lk M i, st with
    | some (13, _, _, _), .int n :: r => q_nar h 4 n fun a h1 => k (pc + 3) L (.ref a :: r) h1
    | _, _ => none
  | .aastore => match st with
    | w :: .int j :: v :: r => q_rst h v j w fun h1 => k (pc + 1) L r h1
    | _ => none
  | .aaload => match st with
    | .int j :: v :: r => q_rld h v j (k (pc + 1) L (.null :: r) h) fun a => k (pc + 1) L (.ref a :: r) h
    | _ => none
  | _ => none
def q_ex (M : qM) (call : Nat → List Value → qH → qR) (pc : Nat) (L st : List Value) (h : qH) (k : qK) : qR := match M.1.lookup pc with
  | some (i, len) => q_ei M call i len pc L st h k
  | none => none
/-- a method's run, at most n instructions -/
def q_it (M : qM) (call : Nat → List Value → qH → qR) : Nat → qK
  | 0 => fun _ _ _ _ => none
  | n + 1 => fun pc L st h => q_ex M call pc L st h (q_it M call n)
/-- it is a constant, or it goes on at one place -/
def q_nat (F : qK → qR) : Prop := (∃ r, ∀ k, F k = r) ∨ ∃ (pc : Nat) (L st : List Value) (h : qH), ∀ k, F k = k pc L st h
