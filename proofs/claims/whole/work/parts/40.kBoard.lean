def q_t0 (E q : Nat) (h : qH) : qR := if 2 ≤ E then none else some (.inr (E, q), h)
set_option maxRecDepth 20000 in
theorem k_X1_init_0 (call : Nat → List Value → qH → qR) (l0 : Nat) (l1 : Nat) (l2 : Nat) (h : qH) : q_run qm_X1_init call 0 [.ref l0, .ref l1, .ref l2] [] h =
  q_nar h 0 (10 : Int32) fun r1 h2 =>
  q_pV h2 (.ref l0) 1 2 (.ref r1) fun h3 =>
  q_nar h3 0 (10 : Int32) fun r4 h5 =>
  q_pV h5 (.ref l0) 1 3 (.ref r4) fun h6 =>
  q_nar h6 0 (10 : Int32) fun r7 h8 =>
  q_pV h8 (.ref l0) 1 4 (.ref r7) fun h9 =>
  q_run qm_X1_init call 28 [.ref l0, .ref l1, .ref l2] [] h9 := by
  refine (q_cut_eq _ _ [0, 28] 200 _ _ _ _).trans ?_
  rfl
set_option maxRecDepth 20000 in
theorem k_X1_init_28 (call : Nat → List Value → qH → qR) (l0 : Nat) (l1 : Nat) (l2 : Nat) (h : qH) : q_run qm_X1_init call 28 [.ref l0, .ref l1, .ref l2] [] h =
  q_nar h 0 (5 : Int32) fun r1 h2 =>
  q_pV h2 (.ref l0) 1 5 (.ref r1) fun h3 =>
  q_nar h3 0 (30 : Int32) fun r4 h5 =>
  q_pV h5 (.ref l0) 1 6 (.ref r4) fun h6 =>
  q_pV h6 (.ref l0) 1 0 (.ref l1) fun h7 =>
  q_pV h7 (.ref l0) 1 1 (.ref l2) fun h8 =>
  some (.inl none, h8) := by
  refine (q_cut_eq _ _ [0, 28] 200 _ _ _ _).trans ?_
  rfl
set_option maxRecDepth 20000 in
theorem k_X1_begin_0 (call : Nat → List Value → qH → qR) (l0 : Nat) (h : qH) : q_run qm_X1_begin call 0 [.ref l0, q_junk] [] h =
  q_pV h (.ref l0) 1 7 (.int (0 : Int32)) fun h1 =>
  q_pV h1 (.ref l0) 1 8 (.int (0 : Int32)) fun h2 =>
  q_run qm_X1_begin call 12 [.ref l0, .int (0 : Int32)] [] h2 := by
  refine (q_cut_eq _ _ [0, 12, 33, 67] 200 _ _ _ _).trans ?_
  rfl
set_option maxRecDepth 20000 in
theorem k_X1_begin_12 (call : Nat → List Value → qH → qR) (l0 : Nat) (l1 : Int32) (h : qH) : q_run qm_X1_begin call 12 [.ref l0, .int l1] [] h =
  if q_cmp .ge l1 (30 : Int32) = true then
    q_run qm_X1_begin call 33 [.ref l0, .int (0 : Int32)] [] h
  else
    q_gR h (.ref l0) 1 6 fun r1 =>
    q_ast h (.ref r1) 0 l1 (0 : Int32) fun h2 =>
    q_run qm_X1_begin call 12 [.ref l0, .int (l1 + (1 : Int32))] [] h2 := by
  refine (q_cut_eq _ _ [0, 12, 33, 67] 200 _ _ _ _).trans ?_
  rfl
set_option maxRecDepth 20000 in
theorem k_X1_begin_33 (call : Nat → List Value → qH → qR) (l0 : Nat) (l1 : Int32) (h : qH) : q_run qm_X1_begin call 33 [.ref l0, .int l1] [] h =
  q_gR h (.ref l0) 1 0 fun r1 =>
  q_gI h (.ref r1) 6 0 fun x2 =>
  if q_cmp .ge l1 x2 = true then
    q_run qm_X1_begin call 67 [.ref l0, .int (0 : Int32)] [] h
  else
    q_gR h (.ref l0) 1 5 fun r3 =>
    q_gR h (.ref l0) 1 0 fun r4 =>
    q_gR h (.ref r4) 6 5 fun r5 =>
    q_ald h (.ref r5) 0 l1 fun x6 =>
    q_ast h (.ref r3) 0 l1 x6 fun h7 =>
    q_run qm_X1_begin call 33 [.ref l0, .int (l1 + (1 : Int32))] [] h7 := by
  refine (q_cut_eq _ _ [0, 12, 33, 67] 200 _ _ _ _).trans ?_
  rfl
set_option maxRecDepth 20000 in
theorem k_X1_begin_67 (call : Nat → List Value → qH → qR) (l0 : Nat) (l1 : Int32) (h : qH) : q_run qm_X1_begin call 67 [.ref l0, .int l1] [] h =
  q_gR h (.ref l0) 1 0 fun r1 =>
  q_gI h (.ref r1) 6 1 fun x2 =>
  if q_cmp .ge l1 x2 = true then
    some (.inl none, h)
  else
    q_gR h (.ref l0) 1 4 fun r3 =>
    q_ast h (.ref r3) 0 l1 (0 : Int32) fun h4 =>
    q_gR h4 (.ref l0) 1 0 fun r5 =>
    q_gR h4 (.ref r5) 6 8 fun r6 =>
    q_ald h4 (.ref r6) 0 l1 fun x7 =>
    q_rcv h4 (.ref l0) 1 (q_rV (call 38 [.ref l0, .int l1, .int x7] h4) q_t0 fun h8 =>
    q_run qm_X1_begin call 67 [.ref l0, .int (l1 + (1 : Int32))] [] h8) := by
  refine (q_cut_eq _ _ [0, 12, 33, 67] 200 _ _ _ _).trans ?_
  rfl
set_option maxRecDepth 20000 in
theorem k_X1_save_0 (call : Nat → List Value → qH → qR) (l0 : Nat) (l1 : Nat) (h : qH) : q_run qm_X1_save call 0 [.ref l0, .ref l1] [] h =
  q_len h (.ref l1) fun x1 =>
  if q_cmp .ge x1 (37 : Int32) = true then
    q_gR h (.ref l0) 1 2 fun r2 =>
    q_cpy h (.ref r2) (0 : Int32) (.ref l1) (0 : Int32) (10 : Int32) fun h3 =>
    q_gR h3 (.ref l0) 1 3 fun r4 =>
    q_cpy h3 (.ref r4) (0 : Int32) (.ref l1) (10 : Int32) (10 : Int32) fun h5 =>
    q_gR h5 (.ref l0) 1 4 fun r6 =>
    q_cpy h5 (.ref r6) (0 : Int32) (.ref l1) (20 : Int32) (10 : Int32) fun h7 =>
    q_gR h7 (.ref l0) 1 5 fun r8 =>
    q_cpy h7 (.ref r8) (0 : Int32) (.ref l1) (30 : Int32) (5 : Int32) fun h9 =>
    q_gI h9 (.ref l0) 1 7 fun x10 =>
    q_ast h9 (.ref l1) 0 (35 : Int32) x10 fun h11 =>
    q_gI h11 (.ref l0) 1 8 fun x12 =>
    q_ast h11 (.ref l1) 0 (36 : Int32) x12 fun h13 =>
    some (.inl none, h13)
  else
    some (.inl none, h) := by
  refine (q_cut_eq _ _ [0] 200 _ _ _ _).trans ?_
  rfl
set_option maxRecDepth 20000 in
theorem k_X1_load_0 (call : Nat → List Value → qH → qR) (l0 : Nat) (l1 : Nat) (h : qH) : q_run qm_X1_load call 0 [.ref l0, .ref l1, q_junk] [] h =
  q_len h (.ref l1) fun x1 =>
  if q_cmp .ge x1 (37 : Int32) = true then
    q_gR h (.ref l0) 1 2 fun r2 =>
    q_cpy h (.ref l1) (0 : Int32) (.ref r2) (0 : Int32) (10 : Int32) fun h3 =>
    q_gR h3 (.ref l0) 1 3 fun r4 =>
    q_cpy h3 (.ref l1) (10 : Int32) (.ref r4) (0 : Int32) (10 : Int32) fun h5 =>
    q_gR h5 (.ref l0) 1 4 fun r6 =>
    q_cpy h5 (.ref l1) (20 : Int32) (.ref r6) (0 : Int32) (10 : Int32) fun h7 =>
    q_gR h7 (.ref l0) 1 5 fun r8 =>
    q_cpy h7 (.ref l1) (30 : Int32) (.ref r8) (0 : Int32) (5 : Int32) fun h9 =>
    q_ald h9 (.ref l1) 0 (35 : Int32) fun x10 =>
    q_pV h9 (.ref l0) 1 7 (.int x10) fun h11 =>
    q_ald h11 (.ref l1) 0 (36 : Int32) fun x12 =>
    q_pV h11 (.ref l0) 1 8 (.int x12) fun h13 =>
    q_run qm_X1_load call 76 [.ref l0, .ref l1, .int (0 : Int32)] [] h13
  else
    some (.inl none, h) := by
  refine (q_cut_eq _ _ [0, 76, 97, 131] 200 _ _ _ _).trans ?_
  rfl
set_option maxRecDepth 20000 in
theorem k_X1_load_76 (call : Nat → List Value → qH → qR) (l0 : Nat) (l1 : Value) (l2 : Int32) (h : qH) : q_run qm_X1_load call 76 [.ref l0, l1, .int l2] [] h =
  if q_cmp .ge l2 (30 : Int32) = true then
    q_run qm_X1_load call 97 [.ref l0, l1, .int (0 : Int32)] [] h
  else
    q_gR h (.ref l0) 1 6 fun r1 =>
    q_ast h (.ref r1) 0 l2 (0 : Int32) fun h2 =>
    q_run qm_X1_load call 76 [.ref l0, l1, .int (l2 + (1 : Int32))] [] h2 := by
  refine (q_cut_eq _ _ [0, 76, 97, 131] 200 _ _ _ _).trans ?_
  rfl
set_option maxRecDepth 20000 in
theorem k_X1_load_97 (call : Nat → List Value → qH → qR) (l0 : Nat) (l1 : Value) (l2 : Int32) (h : qH) : q_run qm_X1_load call 97 [.ref l0, l1, .int l2] [] h =
  q_gR h (.ref l0) 1 0 fun r1 =>
  q_gI h (.ref r1) 6 1 fun x2 =>
  if q_cmp .ge l2 x2 = true then
    some (.inl none, h)
  else
    q_rcv h (.ref l0) 1 (q_rI (call 22 [.ref l0, .int l2] h) q_t0 fun x4 h3 =>
    if q_cmp .eq x4 (0 : Int32) = true then
      q_run qm_X1_load call 131 [.ref l0, l1, .int l2] [] h3
    else
      q_gR h3 (.ref l0) 1 6 fun r5 =>
      q_gR h3 (.ref l0) 1 2 fun r6 =>
      q_ald h3 (.ref r6) 0 l2 fun x7 =>
      q_ald h3 (.ref r5) 0 x7 fun x8 =>
      q_ast h3 (.ref r5) 0 x7 (x8 + (1 : Int32)) fun h9 =>
      q_run qm_X1_load call 131 [.ref l0, l1, .int l2] [] h9) := by
  refine (q_cut_eq _ _ [0, 76, 97, 131] 200 _ _ _ _).trans ?_
  rfl
set_option maxRecDepth 20000 in
theorem k_X1_load_131 (call : Nat → List Value → qH → qR) (l0 : Nat) (l1 : Value) (l2 : Int32) (h : qH) : q_run qm_X1_load call 131 [.ref l0, l1, .int l2] [] h =
  q_run qm_X1_load call 97 [.ref l0, l1, .int (l2 + (1 : Int32))] [] h := by
  refine (q_cut_eq _ _ [0, 76, 97, 131] 200 _ _ _ _).trans ?_
  rfl
set_option maxRecDepth 20000 in
theorem k_X1_isOnFelt_0 (call : Nat → List Value → qH → qR) (l0 : Nat) (l1 : Int32) (h : qH) : q_run qm_X1_isOnFelt call 0 [.ref l0, .int l1] [] h =
  q_gR h (.ref l0) 1 2 fun r1 =>
  q_ald h (.ref r1) 0 l1 fun x2 =>
  if q_cmp .lt x2 (0 : Int32) = true then
    q_run qm_X1_isOnFelt call 24 [.ref l0, .int l1] [] h
  else
    q_gR h (.ref l0) 1 2 fun r3 =>
    q_ald h (.ref r3) 0 l1 fun x4 =>
    if q_cmp .ge x4 (30 : Int32) = true then
      q_run qm_X1_isOnFelt call 24 [.ref l0, .int l1] [] h
    else
      q_run qm_X1_isOnFelt call 25 [.ref l0, .int l1] [.int (1 : Int32)] h := by
  refine (q_cut_eq _ _ [0, 24, 25] 200 _ _ _ _).trans ?_
  rfl
set_option maxRecDepth 20000 in
theorem k_X1_isOnFelt_24 (call : Nat → List Value → qH → qR) (l0 : Value) (l1 : Value) (h : qH) : q_run qm_X1_isOnFelt call 24 [l0, l1] [] h =
  q_run qm_X1_isOnFelt call 25 [l0, l1] [.int (0 : Int32)] h := by
  refine (q_cut_eq _ _ [0, 24, 25] 200 _ _ _ _).trans ?_
  rfl
set_option maxRecDepth 20000 in
theorem k_X1_isOnFelt_25 (call : Nat → List Value → qH → qR) (l0 : Value) (l1 : Value) (s0 : Int32) (h : qH) : q_run qm_X1_isOnFelt call 25 [l0, l1] [.int s0] h =
  q_boo true s0 fun z => some (.inl (some (.int z)), h) := by
  refine (q_cut_eq _ _ [0, 24, 25] 200 _ _ _ _).trans ?_
  rfl
set_option maxRecDepth 20000 in
theorem k_X1_onTopOf_0 (call : Nat → List Value → qH → qR) (l0 : Nat) (l1 : Int32) (h : qH) : q_run qm_X1_onTopOf call 0 [.ref l0, .int l1, q_junk] [] h =
  q_gR h (.ref l0) 1 2 fun r1 =>
  q_ald h (.ref r1) 0 l1 fun x2 =>
  if q_cmp .lt x2 (0 : Int32) = true then
    q_run qm_X1_onTopOf call 35 [.ref l0, .int l1, .int x2] [] h
  else
    if q_cmp .ge x2 (30 : Int32) = true then
      q_run qm_X1_onTopOf call 35 [.ref l0, .int l1, .int x2] [] h
    else
      q_gR h (.ref l0) 1 6 fun r3 =>
      q_ald h (.ref r3) 0 x2 fun x4 =>
      q_gR h (.ref l0) 1 3 fun r5 =>
      q_ald h (.ref r5) 0 l1 fun x6 =>
      q_run qm_X1_onTopOf call 36 [.ref l0, .int l1, .int x2] [.int ((x4 - (1 : Int32)) - x6)] h := by
  refine (q_cut_eq _ _ [0, 35, 36] 200 _ _ _ _).trans ?_
  rfl
set_option maxRecDepth 20000 in
theorem k_X1_onTopOf_35 (call : Nat → List Value → qH → qR) (l0 : Value) (l1 : Value) (l2 : Value) (h : qH) : q_run qm_X1_onTopOf call 35 [l0, l1, l2] [] h =
  q_run qm_X1_onTopOf call 36 [l0, l1, l2] [.int (0 : Int32)] h := by
  refine (q_cut_eq _ _ [0, 35, 36] 200 _ _ _ _).trans ?_
  rfl
set_option maxRecDepth 20000 in
theorem k_X1_onTopOf_36 (call : Nat → List Value → qH → qR) (l0 : Value) (l1 : Value) (l2 : Value) (s0 : Int32) (h : qH) : q_run qm_X1_onTopOf call 36 [l0, l1, l2] [.int s0] h =
  some (.inl (some (.int s0)), h) := by
  refine (q_cut_eq _ _ [0, 35, 36] 200 _ _ _ _).trans ?_
  rfl
set_option maxRecDepth 20000 in
theorem k_X1_isFree_0 (call : Nat → List Value → qH → qR) (l0 : Nat) (l1 : Int32) (h : qH) : q_run qm_X1_isFree call 0 [.ref l0, .int l1] [] h =
  q_rcv h (.ref l0) 1 (q_rI (call 22 [.ref l0, .int l1] h) q_t0 fun x2 h1 =>
  if q_cmp .eq x2 (0 : Int32) = true then
    q_run qm_X1_isFree call 20 [.ref l0, .int l1] [] h1
  else
    q_rcv h1 (.ref l0) 1 (q_rI (call 23 [.ref l0, .int l1] h1) q_t0 fun x4 h3 =>
    if q_cmp .ne x4 (0 : Int32) = true then
      q_run qm_X1_isFree call 20 [.ref l0, .int l1] [] h3
    else
      q_run qm_X1_isFree call 21 [.ref l0, .int l1] [.int (1 : Int32)] h3)) := by
  refine (q_cut_eq _ _ [0, 20, 21] 200 _ _ _ _).trans ?_
  rfl
set_option maxRecDepth 20000 in
theorem k_X1_isFree_20 (call : Nat → List Value → qH → qR) (l0 : Value) (l1 : Value) (h : qH) : q_run qm_X1_isFree call 20 [l0, l1] [] h =
  q_run qm_X1_isFree call 21 [l0, l1] [.int (0 : Int32)] h := by
  refine (q_cut_eq _ _ [0, 20, 21] 200 _ _ _ _).trans ?_
  rfl
set_option maxRecDepth 20000 in
theorem k_X1_isFree_21 (call : Nat → List Value → qH → qR) (l0 : Value) (l1 : Value) (s0 : Int32) (h : qH) : q_run qm_X1_isFree call 21 [l0, l1] [.int s0] h =
  q_boo true s0 fun z => some (.inl (some (.int z)), h) := by
  refine (q_cut_eq _ _ [0, 20, 21] 200 _ _ _ _).trans ?_
  rfl
set_option maxRecDepth 20000 in
theorem k_X1_isFrozen_0 (call : Nat → List Value → qH → qR) (l0 : Nat) (l1 : Int32) (h : qH) : q_run qm_X1_isFrozen call 0 [.ref l0, .int l1] [] h =
  q_rcv h (.ref l0) 1 (q_rI (call 23 [.ref l0, .int l1] h) q_t0 fun x2 h1 =>
  if q_cmp .le x2 (0 : Int32) = true then
    q_run qm_X1_isFrozen call 13 [.ref l0, .int l1] [.int (0 : Int32)] h1
  else
    q_run qm_X1_isFrozen call 13 [.ref l0, .int l1] [.int (1 : Int32)] h1) := by
  refine (q_cut_eq _ _ [0, 13] 200 _ _ _ _).trans ?_
  rfl
set_option maxRecDepth 20000 in
theorem k_X1_isFrozen_13 (call : Nat → List Value → qH → qR) (l0 : Value) (l1 : Value) (s0 : Int32) (h : qH) : q_run qm_X1_isFrozen call 13 [l0, l1] [.int s0] h =
  q_boo true s0 fun z => some (.inl (some (.int z)), h) := by
  refine (q_cut_eq _ _ [0, 13] 200 _ _ _ _).trans ?_
  rfl
set_option maxRecDepth 20000 in
theorem k_X1_freeBits_0 (call : Nat → List Value → qH → qR) (l0 : Nat) (h : qH) : q_run qm_X1_freeBits call 0 [.ref l0, q_junk, q_junk] [] h =
  q_run qm_X1_freeBits call 4 [.ref l0, .int (0 : Int32), .int (0 : Int32)] [] h := by
  refine (q_cut_eq _ _ [0, 4, 31] 200 _ _ _ _).trans ?_
  rfl
set_option maxRecDepth 20000 in
theorem k_X1_freeBits_4 (call : Nat → List Value → qH → qR) (l0 : Nat) (l1 : Int32) (l2 : Int32) (h : qH) : q_run qm_X1_freeBits call 4 [.ref l0, .int l1, .int l2] [] h =
  q_gR h (.ref l0) 1 0 fun r1 =>
  q_gI h (.ref r1) 6 1 fun x2 =>
  if q_cmp .ge l2 x2 = true then
    some (.inl (some (.int l1)), h)
  else
    q_rcv h (.ref l0) 1 (q_rI (call 24 [.ref l0, .int l2] h) q_t0 fun x4 h3 =>
    if q_cmp .eq x4 (0 : Int32) = true then
      q_run qm_X1_freeBits call 31 [.ref l0, .int l1, .int l2] [.int (0 : Int32), .int l1] h3
    else
      q_run qm_X1_freeBits call 31 [.ref l0, .int l1, .int l2] [.int ((1 : Int32) <<< (l2 &&& 31)), .int l1] h3) := by
  refine (q_cut_eq _ _ [0, 4, 31] 200 _ _ _ _).trans ?_
  rfl
set_option maxRecDepth 20000 in
theorem k_X1_freeBits_31 (call : Nat → List Value → qH → qR) (l0 : Nat) (l1 : Value) (l2 : Int32) (s0 : Int32) (s1 : Int32) (h : qH) : q_run qm_X1_freeBits call 31 [.ref l0, l1, .int l2] [.int s1, .int s0] h =
  q_run qm_X1_freeBits call 4 [.ref l0, .int (s0 ||| s1), .int (l2 + (1 : Int32))] [] h := by
  refine (q_cut_eq _ _ [0, 4, 31] 200 _ _ _ _).trans ?_
  rfl
set_option maxRecDepth 20000 in
theorem k_X1_frozenBits_0 (call : Nat → List Value → qH → qR) (l0 : Nat) (h : qH) : q_run qm_X1_frozenBits call 0 [.ref l0, q_junk, q_junk] [] h =
  q_run qm_X1_frozenBits call 4 [.ref l0, .int (0 : Int32), .int (0 : Int32)] [] h := by
  refine (q_cut_eq _ _ [0, 4, 31] 200 _ _ _ _).trans ?_
  rfl
set_option maxRecDepth 20000 in
theorem k_X1_frozenBits_4 (call : Nat → List Value → qH → qR) (l0 : Nat) (l1 : Int32) (l2 : Int32) (h : qH) : q_run qm_X1_frozenBits call 4 [.ref l0, .int l1, .int l2] [] h =
  q_gR h (.ref l0) 1 0 fun r1 =>
  q_gI h (.ref r1) 6 1 fun x2 =>
  if q_cmp .ge l2 x2 = true then
    some (.inl (some (.int l1)), h)
  else
    q_rcv h (.ref l0) 1 (q_rI (call 25 [.ref l0, .int l2] h) q_t0 fun x4 h3 =>
    if q_cmp .eq x4 (0 : Int32) = true then
      q_run qm_X1_frozenBits call 31 [.ref l0, .int l1, .int l2] [.int (0 : Int32), .int l1] h3
    else
      q_run qm_X1_frozenBits call 31 [.ref l0, .int l1, .int l2] [.int ((1 : Int32) <<< (l2 &&& 31)), .int l1] h3) := by
  refine (q_cut_eq _ _ [0, 4, 31] 200 _ _ _ _).trans ?_
  rfl
set_option maxRecDepth 20000 in
theorem k_X1_frozenBits_31 (call : Nat → List Value → qH → qR) (l0 : Nat) (l1 : Value) (l2 : Int32) (s0 : Int32) (s1 : Int32) (h : qH) : q_run qm_X1_frozenBits call 31 [.ref l0, l1, .int l2] [.int s1, .int s0] h =
  q_run qm_X1_frozenBits call 4 [.ref l0, .int (s0 ||| s1), .int (l2 + (1 : Int32))] [] h := by
  refine (q_cut_eq _ _ [0, 4, 31] 200 _ _ _ _).trans ?_
  rfl
set_option maxRecDepth 20000 in
theorem k_X1_inCupBits_0 (call : Nat → List Value → qH → qR) (l0 : Nat) (h : qH) : q_run qm_X1_inCupBits call 0 [.ref l0, q_junk, q_junk] [] h =
  q_run qm_X1_inCupBits call 4 [.ref l0, .int (0 : Int32), .int (0 : Int32)] [] h := by
  refine (q_cut_eq _ _ [0, 4, 34] 200 _ _ _ _).trans ?_
  rfl
set_option maxRecDepth 20000 in
theorem k_X1_inCupBits_4 (call : Nat → List Value → qH → qR) (l0 : Nat) (l1 : Int32) (l2 : Int32) (h : qH) : q_run qm_X1_inCupBits call 4 [.ref l0, .int l1, .int l2] [] h =
  q_gR h (.ref l0) 1 0 fun r1 =>
  q_gI h (.ref r1) 6 1 fun x2 =>
  if q_cmp .ge l2 x2 = true then
    some (.inl (some (.int l1)), h)
  else
    q_gR h (.ref l0) 1 2 fun r3 =>
    q_ald h (.ref r3) 0 l2 fun x4 =>
    if q_cmp .gt x4 (-3 : Int32) = true then
      q_run qm_X1_inCupBits call 34 [.ref l0, .int l1, .int l2] [.int (0 : Int32), .int l1] h
    else
      q_run qm_X1_inCupBits call 34 [.ref l0, .int l1, .int l2] [.int ((1 : Int32) <<< (l2 &&& 31)), .int l1] h := by
  refine (q_cut_eq _ _ [0, 4, 34] 200 _ _ _ _).trans ?_
  rfl
set_option maxRecDepth 20000 in
theorem k_X1_inCupBits_34 (call : Nat → List Value → qH → qR) (l0 : Nat) (l1 : Value) (l2 : Int32) (s0 : Int32) (s1 : Int32) (h : qH) : q_run qm_X1_inCupBits call 34 [.ref l0, l1, .int l2] [.int s1, .int s0] h =
  q_run qm_X1_inCupBits call 4 [.ref l0, .int (s0 ||| s1), .int (l2 + (1 : Int32))] [] h := by
  refine (q_cut_eq _ _ [0, 4, 34] 200 _ _ _ _).trans ?_
  rfl
set_option maxRecDepth 20000 in
theorem k_X1_floorBits_0 (call : Nat → List Value → qH → qR) (l0 : Nat) (h : qH) : q_run qm_X1_floorBits call 0 [.ref l0, q_junk, q_junk] [] h =
  q_run qm_X1_floorBits call 4 [.ref l0, .int (0 : Int32), .int (0 : Int32)] [] h := by
  refine (q_cut_eq _ _ [0, 4, 34] 200 _ _ _ _).trans ?_
  rfl
set_option maxRecDepth 20000 in
theorem k_X1_floorBits_4 (call : Nat → List Value → qH → qR) (l0 : Nat) (l1 : Int32) (l2 : Int32) (h : qH) : q_run qm_X1_floorBits call 4 [.ref l0, .int l1, .int l2] [] h =
  q_gR h (.ref l0) 1 0 fun r1 =>
  q_gI h (.ref r1) 6 1 fun x2 =>
  if q_cmp .ge l2 x2 = true then
    some (.inl (some (.int l1)), h)
  else
    q_gR h (.ref l0) 1 2 fun r3 =>
    q_ald h (.ref r3) 0 l2 fun x4 =>
    if q_cmp .ne x4 (-2 : Int32) = true then
      q_run qm_X1_floorBits call 34 [.ref l0, .int l1, .int l2] [.int (0 : Int32), .int l1] h
    else
      q_run qm_X1_floorBits call 34 [.ref l0, .int l1, .int l2] [.int ((1 : Int32) <<< (l2 &&& 31)), .int l1] h := by
  refine (q_cut_eq _ _ [0, 4, 34] 200 _ _ _ _).trans ?_
  rfl
set_option maxRecDepth 20000 in
theorem k_X1_floorBits_34 (call : Nat → List Value → qH → qR) (l0 : Nat) (l1 : Value) (l2 : Int32) (s0 : Int32) (s1 : Int32) (h : qH) : q_run qm_X1_floorBits call 34 [.ref l0, l1, .int l2] [.int s1, .int s0] h =
  q_run qm_X1_floorBits call 4 [.ref l0, .int (s0 ||| s1), .int (l2 + (1 : Int32))] [] h := by
  refine (q_cut_eq _ _ [0, 4, 34] 200 _ _ _ _).trans ?_
  rfl
set_option maxRecDepth 20000 in
theorem k_X1_howManyIn_0 (call : Nat → List Value → qH → qR) (l0 : Nat) (l1 : Int32) (h : qH) : q_run qm_X1_howManyIn call 0 [.ref l0, .int l1, q_junk, q_junk] [] h =
  q_run qm_X1_howManyIn call 4 [.ref l0, .int l1, .int (0 : Int32), .int (0 : Int32)] [] h := by
  refine (q_cut_eq _ _ [0, 4, 34] 200 _ _ _ _).trans ?_
  rfl
set_option maxRecDepth 20000 in
theorem k_X1_howManyIn_4 (call : Nat → List Value → qH → qR) (l0 : Nat) (l1 : Int32) (l2 : Int32) (l3 : Int32) (h : qH) : q_run qm_X1_howManyIn call 4 [.ref l0, .int l1, .int l2, .int l3] [] h =
  q_gR h (.ref l0) 1 0 fun r1 =>
  q_gI h (.ref r1) 6 1 fun x2 =>
  if q_cmp .ge l3 x2 = true then
    some (.inl (some (.int l2)), h)
  else
    q_gR h (.ref l0) 1 2 fun r3 =>
    q_ald h (.ref r3) 0 l3 fun x4 =>
    if q_cmp .ne x4 ((-3 : Int32) - l1) = true then
      q_run qm_X1_howManyIn call 34 [.ref l0, .int l1, .int l2, .int l3] [.int (0 : Int32), .int l2] h
    else
      q_run qm_X1_howManyIn call 34 [.ref l0, .int l1, .int l2, .int l3] [.int (1 : Int32), .int l2] h := by
  refine (q_cut_eq _ _ [0, 4, 34] 200 _ _ _ _).trans ?_
  rfl
set_option maxRecDepth 20000 in
theorem k_X1_howManyIn_34 (call : Nat → List Value → qH → qR) (l0 : Nat) (l1 : Int32) (l2 : Value) (l3 : Int32) (s0 : Int32) (s1 : Int32) (h : qH) : q_run qm_X1_howManyIn call 34 [.ref l0, .int l1, l2, .int l3] [.int s1, .int s0] h =
  q_run qm_X1_howManyIn call 4 [.ref l0, .int l1, .int (s0 + s1), .int (l3 + (1 : Int32))] [] h := by
  refine (q_cut_eq _ _ [0, 4, 34] 200 _ _ _ _).trans ?_
  rfl
set_option maxRecDepth 20000 in
theorem k_X1_lyingAt_0 (call : Nat → List Value → qH → qR) (l0 : Nat) (l1 : Int32) (l2 : Int32) (h : qH) : q_run qm_X1_lyingAt call 0 [.ref l0, .int l1, .int l2, q_junk] [] h =
  q_run qm_X1_lyingAt call 2 [.ref l0, .int l1, .int l2, .int (0 : Int32)] [] h := by
  refine (q_cut_eq _ _ [0, 2, 35] 200 _ _ _ _).trans ?_
  rfl
set_option maxRecDepth 20000 in
theorem k_X1_lyingAt_2 (call : Nat → List Value → qH → qR) (l0 : Nat) (l1 : Int32) (l2 : Int32) (l3 : Int32) (h : qH) : q_run qm_X1_lyingAt call 2 [.ref l0, .int l1, .int l2, .int l3] [] h =
  q_gR h (.ref l0) 1 0 fun r1 =>
  q_gI h (.ref r1) 6 1 fun x2 =>
  if q_cmp .ge l3 x2 = true then
    some (.inl (some (.int (-1 : Int32))), h)
  else
    q_gR h (.ref l0) 1 2 fun r3 =>
    q_ald h (.ref r3) 0 l3 fun x4 =>
    if q_cmp .ne x4 l1 = true then
      q_run qm_X1_lyingAt call 35 [.ref l0, .int l1, .int l2, .int l3] [] h
    else
      q_gR h (.ref l0) 1 3 fun r5 =>
      q_ald h (.ref r5) 0 l3 fun x6 =>
      if q_cmp .ne x6 l2 = true then
        q_run qm_X1_lyingAt call 35 [.ref l0, .int l1, .int l2, .int l3] [] h
      else
        some (.inl (some (.int l3)), h) := by
  refine (q_cut_eq _ _ [0, 2, 35] 200 _ _ _ _).trans ?_
  rfl
set_option maxRecDepth 20000 in
theorem k_X1_lyingAt_35 (call : Nat → List Value → qH → qR) (l0 : Nat) (l1 : Int32) (l2 : Int32) (l3 : Int32) (h : qH) : q_run qm_X1_lyingAt call 35 [.ref l0, .int l1, .int l2, .int l3] [] h =
  q_run qm_X1_lyingAt call 2 [.ref l0, .int l1, .int l2, .int (l3 + (1 : Int32))] [] h := by
  refine (q_cut_eq _ _ [0, 2, 35] 200 _ _ _ _).trans ?_
  rfl
set_option maxRecDepth 20000 in
theorem k_X1_givenWithin_0 (call : Nat → List Value → qH → qR) (l0 : Nat) (l1 : Int32) (h : qH) : q_run qm_X1_givenWithin call 0 [.ref l0, .int l1, q_junk, q_junk] [] h =
  q_run qm_X1_givenWithin call 4 [.ref l0, .int l1, .int (0 : Int32), .int (0 : Int32)] [] h := by
  refine (q_cut_eq _ _ [0, 4] 200 _ _ _ _).trans ?_
  rfl
set_option maxRecDepth 20000 in
theorem k_X1_givenWithin_4 (call : Nat → List Value → qH → qR) (l0 : Nat) (l1 : Int32) (l2 : Int32) (l3 : Int32) (h : qH) : q_run qm_X1_givenWithin call 4 [.ref l0, .int l1, .int l2, .int l3] [] h =
  q_gR h (.ref l0) 1 0 fun r1 =>
  q_gI h (.ref r1) 6 0 fun x2 =>
  if q_cmp .ge l3 x2 = true then
    some (.inl (some (.int l2)), h)
  else
    q_gR h (.ref l0) 1 5 fun r3 =>
    q_ald h (.ref r3) 0 l3 fun x4 =>
    q_run qm_X1_givenWithin call 4 [.ref l0, .int l1, .int (l2 + (if l1 < x4 then l1 else x4)), .int (l3 + (1 : Int32))] [] h := by
  refine (q_cut_eq _ _ [0, 4] 200 _ _ _ _).trans ?_
  rfl
set_option maxRecDepth 20000 in
theorem k_X1_showLaw_0 (call : Nat → List Value → qH → qR) (l0 : Nat) (l1 : Int32) (h : qH) : q_run qm_X1_showLaw call 0 [.ref l0, .int l1] [] h =
  q_gR h (.ref l0) 1 1 fun r1 =>
  q_gR h (.ref r1) 5 3 fun r2 =>
  q_gR h (.ref l0) 1 0 fun r3 =>
  q_gR h (.ref r3) 6 7 fun r4 =>
  q_ald h (.ref r4) 0 l1 fun x5 =>
  q_ast h (.ref r2) 0 (1 : Int32) x5 fun h6 =>
  q_gR h6 (.ref l0) 1 1 fun r7 =>
  q_gR h6 (.ref r7) 5 3 fun r8 =>
  q_gR h6 (.ref l0) 1 0 fun r9 =>
  q_gI h6 (.ref r9) 6 4 fun x10 =>
  q_ast h6 (.ref r8) 0 (2 : Int32) x10 fun h11 =>
  q_gR h11 (.ref l0) 1 1 fun r12 =>
  q_gR h11 (.ref r12) 5 3 fun r13 =>
  q_gI h11 (.ref l0) 1 8 fun x14 =>
  q_ast h11 (.ref r13) 0 (3 : Int32) x14 fun h15 =>
  q_gR h15 (.ref l0) 1 1 fun r16 =>
  q_gR h15 (.ref r16) 5 3 fun r17 =>
  q_gR h15 (.ref l0) 1 3 fun r18 =>
  q_ald h15 (.ref r18) 0 l1 fun x19 =>
  q_ast h15 (.ref r17) 0 (4 : Int32) x19 fun h20 =>
  q_gR h20 (.ref l0) 1 1 fun r21 =>
  q_gR h20 (.ref r21) 5 3 fun r22 =>
  q_gR h20 (.ref l0) 1 4 fun r23 =>
  q_ald h20 (.ref r23) 0 l1 fun x24 =>
  q_ast h20 (.ref r22) 0 (5 : Int32) x24 fun h25 =>
  q_gR h25 (.ref l0) 1 1 fun r26 =>
  q_gR h25 (.ref r26) 5 3 fun r27 =>
  q_gR h25 (.ref l0) 1 2 fun r28 =>
  q_ald h25 (.ref r28) 0 l1 fun x29 =>
  q_ast h25 (.ref r27) 0 (6 : Int32) x29 fun h30 =>
  q_run qm_X1_showLaw call 93 [.ref l0, .int l1] [] h30 := by
  refine (q_cut_eq _ _ [0, 93] 200 _ _ _ _).trans ?_
  rfl
set_option maxRecDepth 20000 in
theorem k_X1_showLaw_93 (call : Nat → List Value → qH → qR) (l0 : Nat) (l1 : Int32) (h : qH) : q_run qm_X1_showLaw call 93 [.ref l0, .int l1] [] h =
  q_gR h (.ref l0) 1 1 fun r1 =>
  q_gR h (.ref r1) 5 3 fun r2 =>
  q_gI h (.ref l0) 1 7 fun x3 =>
  q_ast h (.ref r2) 0 (7 : Int32) x3 fun h4 =>
  q_gR h4 (.ref l0) 1 1 fun r5 =>
  q_gR h4 (.ref r5) 5 3 fun r6 =>
  q_gR h4 (.ref l0) 1 5 fun r7 =>
  q_gR h4 (.ref l0) 1 0 fun r8 =>
  q_gR h4 (.ref r8) 6 6 fun r9 =>
  q_ald h4 (.ref r9) 0 l1 fun x10 =>
  q_ald h4 (.ref r7) 0 x10 fun x11 =>
  q_ast h4 (.ref r6) 0 (8 : Int32) x11 fun h12 =>
  some (.inl none, h12) := by
  refine (q_cut_eq _ _ [0, 93] 200 _ _ _ _).trans ?_
  rfl
set_option maxRecDepth 20000 in
theorem k_X1_flight_0 (call : Nat → List Value → qH → qR) (l0 : Nat) (l1 : Int32) (l2 : Int32) (h : qH) : q_run qm_X1_flight call 0 [.ref l0, .int l1, .int l2] [] h =
  q_rcv h (.ref l0) 1 (q_rI (call 22 [.ref l0, .int l1] h) q_t0 fun x2 h1 =>
  if q_cmp .ne x2 (0 : Int32) = true then
    q_rcv h1 (.ref l0) 1 (q_rV (call 33 [.ref l0, .int l1] h1) q_t0 fun h3 =>
    q_gR h3 (.ref l0) 1 1 fun r5 =>
    q_rcv h3 (.ref r5) 5 (q_rI (call 72 [.ref r5, .int l2] h3) q_t0 fun x7 h6 =>
    some (.inl (some (.int x7)), h6)))
  else
    some (.inl (some (.int (0 : Int32))), h1)) := by
  refine (q_cut_eq _ _ [0] 200 _ _ _ _).trans ?_
  rfl
set_option maxRecDepth 20000 in
theorem k_X1_landing_0 (call : Nat → List Value → qH → qR) (l0 : Nat) (l1 : Int32) (l2 : Int32) (l3 : Int32) (h : qH) : q_run qm_X1_landing call 0 [.ref l0, .int l1, .int l2, .int l3, q_junk, q_junk] [] h =
  q_rcv h (.ref l0) 1 (q_rI (call 34 [.ref l0, .int l1, .int l2] h) q_t0 fun x2 h1 =>
  if q_cmp .ne l3 (0 : Int32) = true then
    q_gR h1 (.ref l0) 1 2 fun r3 =>
    q_ald h1 (.ref r3) 0 l1 fun x4 =>
    q_run qm_X1_landing call 33 [.ref l0, .int l1, .int l2, .int l3, .int x2, q_junk] [.int (x4 - x2)] h1
  else
    q_gR h1 (.ref l0) 1 2 fun r5 =>
    q_ald h1 (.ref r5) 0 l1 fun x6 =>
    q_run qm_X1_landing call 33 [.ref l0, .int l1, .int l2, .int l3, .int x2, q_junk] [.int (x6 + x2)] h1) := by
  refine (q_cut_eq _ _ [0, 33, 57, 59] 200 _ _ _ _).trans ?_
  rfl
set_option maxRecDepth 20000 in
theorem k_X1_landing_33 (call : Nat → List Value → qH → qR) (l0 : Nat) (l1 : Value) (l2 : Value) (l3 : Value) (l4 : Value) (l5 : Value) (s0 : Int32) (h : qH) : q_run qm_X1_landing call 33 [.ref l0, l1, l2, l3, l4, l5] [.int s0] h =
  if q_cmp .lt s0 (0 : Int32) = true then
    q_run qm_X1_landing call 57 [.ref l0, l1, l2, l3, l4, .int s0] [] h
  else
    q_gR h (.ref l0) 1 0 fun r1 =>
    q_gI h (.ref r1) 6 3 fun x2 =>
    if q_cmp .ge s0 x2 = true then
      q_run qm_X1_landing call 57 [.ref l0, l1, l2, l3, l4, .int s0] [] h
    else
      q_run qm_X1_landing call 59 [.ref l0, l1, l2, l3, l4, .int s0] [.int s0] h := by
  refine (q_cut_eq _ _ [0, 33, 57, 59] 200 _ _ _ _).trans ?_
  rfl
set_option maxRecDepth 20000 in
theorem k_X1_landing_57 (call : Nat → List Value → qH → qR) (l0 : Value) (l1 : Value) (l2 : Value) (l3 : Value) (l4 : Value) (l5 : Value) (h : qH) : q_run qm_X1_landing call 57 [l0, l1, l2, l3, l4, l5] [] h =
  q_run qm_X1_landing call 59 [l0, l1, l2, l3, l4, l5] [.int (-2 : Int32)] h := by
  refine (q_cut_eq _ _ [0, 33, 57, 59] 200 _ _ _ _).trans ?_
  rfl
set_option maxRecDepth 20000 in
theorem k_X1_landing_59 (call : Nat → List Value → qH → qR) (l0 : Value) (l1 : Value) (l2 : Value) (l3 : Value) (l4 : Value) (l5 : Value) (s0 : Int32) (h : qH) : q_run qm_X1_landing call 59 [l0, l1, l2, l3, l4, l5] [.int s0] h =
  some (.inl (some (.int s0)), h) := by
  refine (q_cut_eq _ _ [0, 33, 57, 59] 200 _ _ _ _).trans ?_
  rfl
set_option maxRecDepth 20000 in
theorem k_X1_fly_0 (call : Nat → List Value → qH → qR) (l0 : Nat) (l1 : Int32) (l2 : Int32) (h : qH) : q_run qm_X1_fly call 0 [.ref l0, .int l1, .int l2, q_junk, q_junk] [] h =
  if q_cmp .eq l2 (0 : Int32) = true then
    q_run qm_X1_fly call 12 [.ref l0, .int l1, .int l2, q_junk, q_junk] [] h
  else
    q_rcv h (.ref l0) 1 (q_rI (call 22 [.ref l0, .int l1] h) q_t0 fun x2 h1 =>
    if q_cmp .ne x2 (0 : Int32) = true then
      q_gR h1 (.ref l0) 1 2 fun r3 =>
      q_ald h1 (.ref r3) 0 l1 fun x4 =>
      q_rcv h1 (.ref l0) 1 (q_rV (call 37 [.ref l0, .int l1] h1) q_t0 fun h5 =>
      if q_cmp .lt (x4 + l2) (0 : Int32) = true then
        q_run qm_X1_fly call 43 [.ref l0, .int l1, .int l2, .int (x4 + l2), q_junk] [] h5
      else
        q_gR h5 (.ref l0) 1 0 fun r7 =>
        q_gI h5 (.ref r7) 6 3 fun x8 =>
        if q_cmp .lt (x4 + l2) x8 = true then
          q_gR h5 (.ref l0) 1 0 fun r9 =>
          q_rcv h5 (.ref r9) 6 (q_rI (call 78 [.ref r9, .int (x4 + l2)] h5) q_t0 fun x11 h10 =>
          if q_cmp .ne x11 (-1 : Int32) = true then
            q_gR h10 (.ref l0) 1 2 fun r12 =>
            q_ast h10 (.ref r12) 0 l1 ((-3 : Int32) - x11) fun h13 =>
            q_run qm_X1_fly call 89 [.ref l0, .int l1, .int l2, .int (x4 + l2), .int x11] [] h13
          else
            q_rcv h10 (.ref l0) 1 (q_rV (call 38 [.ref l0, .int l1, .int (x4 + l2)] h10) q_t0 fun h14 =>
            q_run qm_X1_fly call 89 [.ref l0, .int l1, .int l2, .int (x4 + l2), .int x11] [] h14))
        else
          q_run qm_X1_fly call 43 [.ref l0, .int l1, .int l2, .int (x4 + l2), q_junk] [] h5)
    else
      q_run qm_X1_fly call 12 [.ref l0, .int l1, .int l2, q_junk, q_junk] [] h1) := by
  refine (q_cut_eq _ _ [0, 12, 43, 89] 200 _ _ _ _).trans ?_
  rfl
set_option maxRecDepth 20000 in
theorem k_X1_fly_12 (call : Nat → List Value → qH → qR) (l0 : Value) (l1 : Value) (l2 : Value) (l3 : Value) (l4 : Value) (h : qH) : q_run qm_X1_fly call 12 [l0, l1, l2, l3, l4] [] h =
  some (.inl (some (.int (-1 : Int32))), h) := by
  refine (q_cut_eq _ _ [0, 12, 43, 89] 200 _ _ _ _).trans ?_
  rfl
set_option maxRecDepth 20000 in
theorem k_X1_fly_43 (call : Nat → List Value → qH → qR) (l0 : Nat) (l1 : Int32) (l2 : Value) (l3 : Value) (l4 : Value) (h : qH) : q_run qm_X1_fly call 43 [.ref l0, .int l1, l2, l3, l4] [] h =
  q_gR h (.ref l0) 1 2 fun r1 =>
  q_ast h (.ref r1) 0 l1 (-2 : Int32) fun h2 =>
  some (.inl (some (.int (-1 : Int32))), h2) := by
  refine (q_cut_eq _ _ [0, 12, 43, 89] 200 _ _ _ _).trans ?_
  rfl
set_option maxRecDepth 20000 in
theorem k_X1_fly_89 (call : Nat → List Value → qH → qR) (l0 : Value) (l1 : Value) (l2 : Value) (l3 : Value) (l4 : Int32) (h : qH) : q_run qm_X1_fly call 89 [l0, l1, l2, l3, .int l4] [] h =
  some (.inl (some (.int l4)), h) := by
  refine (q_cut_eq _ _ [0, 12, 43, 89] 200 _ _ _ _).trans ?_
  rfl
set_option maxRecDepth 20000 in
theorem k_X1_lift_0 (call : Nat → List Value → qH → qR) (l0 : Nat) (l1 : Int32) (h : qH) : q_run qm_X1_lift call 0 [.ref l0, .int l1, q_junk, q_junk] [] h =
  q_gR h (.ref l0) 1 2 fun r1 =>
  q_ald h (.ref r1) 0 l1 fun x2 =>
  q_run qm_X1_lift call 9 [.ref l0, .int l1, .int x2, .int (0 : Int32)] [] h := by
  refine (q_cut_eq _ _ [0, 9, 55] 200 _ _ _ _).trans ?_
  rfl
set_option maxRecDepth 20000 in
theorem k_X1_lift_9 (call : Nat → List Value → qH → qR) (l0 : Nat) (l1 : Int32) (l2 : Int32) (l3 : Int32) (h : qH) : q_run qm_X1_lift call 9 [.ref l0, .int l1, .int l2, .int l3] [] h =
  q_gR h (.ref l0) 1 0 fun r1 =>
  q_gI h (.ref r1) 6 1 fun x2 =>
  if q_cmp .ge l3 x2 = true then
    q_gR h (.ref l0) 1 6 fun r3 =>
    q_ald h (.ref r3) 0 l2 fun x4 =>
    q_ast h (.ref r3) 0 l2 (x4 - (1 : Int32)) fun h5 =>
    q_gR h5 (.ref l0) 1 3 fun r6 =>
    q_ast h5 (.ref r6) 0 l1 (0 : Int32) fun h7 =>
    some (.inl none, h7)
  else
    q_gR h (.ref l0) 1 2 fun r8 =>
    q_ald h (.ref r8) 0 l3 fun x9 =>
    if q_cmp .ne x9 l2 = true then
      q_run qm_X1_lift call 55 [.ref l0, .int l1, .int l2, .int l3] [] h
    else
      q_gR h (.ref l0) 1 3 fun r10 =>
      q_ald h (.ref r10) 0 l3 fun x11 =>
      q_gR h (.ref l0) 1 3 fun r12 =>
      q_ald h (.ref r12) 0 l1 fun x13 =>
      if q_cmp .le x11 x13 = true then
        q_run qm_X1_lift call 55 [.ref l0, .int l1, .int l2, .int l3] [] h
      else
        q_gR h (.ref l0) 1 3 fun r14 =>
        q_ald h (.ref r14) 0 l3 fun x15 =>
        q_ast h (.ref r14) 0 l3 (x15 - (1 : Int32)) fun h16 =>
        q_run qm_X1_lift call 55 [.ref l0, .int l1, .int l2, .int l3] [] h16 := by
  refine (q_cut_eq _ _ [0, 9, 55] 200 _ _ _ _).trans ?_
  rfl
set_option maxRecDepth 20000 in
theorem k_X1_lift_55 (call : Nat → List Value → qH → qR) (l0 : Nat) (l1 : Int32) (l2 : Int32) (l3 : Int32) (h : qH) : q_run qm_X1_lift call 55 [.ref l0, .int l1, .int l2, .int l3] [] h =
  q_run qm_X1_lift call 9 [.ref l0, .int l1, .int l2, .int (l3 + (1 : Int32))] [] h := by
  refine (q_cut_eq _ _ [0, 9, 55] 200 _ _ _ _).trans ?_
  rfl
set_option maxRecDepth 20000 in
theorem k_X1_layOnTop_0 (call : Nat → List Value → qH → qR) (l0 : Nat) (l1 : Int32) (l2 : Int32) (h : qH) : q_run qm_X1_layOnTop call 0 [.ref l0, .int l1, .int l2] [] h =
  q_gR h (.ref l0) 1 2 fun r1 =>
  q_ast h (.ref r1) 0 l1 l2 fun h2 =>
  q_gR h2 (.ref l0) 1 3 fun r3 =>
  q_gR h2 (.ref l0) 1 6 fun r4 =>
  q_ald h2 (.ref r4) 0 l2 fun x5 =>
  q_ast h2 (.ref r3) 0 l1 x5 fun h6 =>
  q_gR h6 (.ref l0) 1 6 fun r7 =>
  q_ald h6 (.ref r7) 0 l2 fun x8 =>
  q_ast h6 (.ref r7) 0 l2 (x8 + (1 : Int32)) fun h9 =>
  some (.inl none, h9) := by
  refine (q_cut_eq _ _ [0] 200 _ _ _ _).trans ?_
  rfl
set_option maxRecDepth 20000 in
theorem k_X1_flick_0 (call : Nat → List Value → qH → qR) (l0 : Nat) (l1 : Int32) (l2 : Int32) (l3 : Int32) (h : qH) : q_run qm_X1_flick call 0 [.ref l0, .int l1, .int l2, .int l3, q_junk, q_junk, q_junk] [] h =
  q_gR h (.ref l0) 1 0 fun r1 =>
  q_gR h (.ref r1) 6 6 fun r2 =>
  q_ald h (.ref r2) 0 l1 fun x3 =>
  q_rcv h (.ref l0) 1 (q_rI (call 24 [.ref l0, .int l1] h) q_t0 fun x5 h4 =>
  if q_cmp .eq x5 (0 : Int32) = true then
    q_run qm_X1_flick call 30 [.ref l0, .int l1, .int l2, .int l3, .int x3, q_junk, q_junk] [] h4
  else
    q_gR h4 (.ref l0) 1 5 fun r6 =>
    q_ald h4 (.ref r6) 0 x3 fun x7 =>
    if q_cmp .ge x7 (1 : Int32) = true then
      q_rcv h4 (.ref l0) 1 (q_rI (call 34 [.ref l0, .int l1, .int l2] h4) q_t0 fun x9 h8 =>
      q_gR h8 (.ref l0) 1 5 fun r10 =>
      q_ald h8 (.ref r10) 0 x3 fun x11 =>
      q_ast h8 (.ref r10) 0 x3 (x11 - (1 : Int32)) fun h12 =>
      q_gR h12 (.ref l0) 1 4 fun r13 =>
      q_ald h12 (.ref r13) 0 l1 fun x14 =>
      q_ast h12 (.ref r13) 0 l1 (x14 + (1 : Int32)) fun h15 =>
      if q_cmp .ne l3 (0 : Int32) = true then
        q_run qm_X1_flick call 75 [.ref l0, .int l1, .int l2, .int l3, .int x3, .int x9, q_junk] [.int (-x9), .int l1, .ref l0] h15
      else
        q_run qm_X1_flick call 75 [.ref l0, .int l1, .int l2, .int l3, .int x3, .int x9, q_junk] [.int x9, .int l1, .ref l0] h15)
    else
      q_run qm_X1_flick call 30 [.ref l0, .int l1, .int l2, .int l3, .int x3, q_junk, q_junk] [] h4) := by
  refine (q_cut_eq _ _ [0, 30, 75, 117] 200 _ _ _ _).trans ?_
  rfl
set_option maxRecDepth 20000 in
theorem k_X1_flick_30 (call : Nat → List Value → qH → qR) (l0 : Value) (l1 : Value) (l2 : Value) (l3 : Value) (l4 : Value) (l5 : Value) (l6 : Value) (h : qH) : q_run qm_X1_flick call 30 [l0, l1, l2, l3, l4, l5, l6] [] h =
  q_boo true (0 : Int32) fun z => some (.inl (some (.int z)), h) := by
  refine (q_cut_eq _ _ [0, 30, 75, 117] 200 _ _ _ _).trans ?_
  rfl
set_option maxRecDepth 20000 in
theorem k_X1_flick_75 (call : Nat → List Value → qH → qR) (l0 : Nat) (l1 : Value) (l2 : Value) (l3 : Value) (l4 : Int32) (l5 : Value) (l6 : Value) (s0 : Nat) (s1 : Int32) (s2 : Int32) (h : qH) : q_run qm_X1_flick call 75 [.ref l0, l1, l2, l3, .int l4, l5, l6] [.int s2, .int s1, .ref s0] h =
  q_rcv h (.ref s0) 1 (q_rI (call 36 [.ref s0, .int s1, .int s2] h) q_t0 fun x2 h1 =>
  if q_cmp .eq x2 (-1 : Int32) = true then
    q_run qm_X1_flick call 117 [.ref l0, l1, l2, l3, .int l4, l5, .int x2] [] h1
  else
    q_gR h1 (.ref l0) 1 5 fun r3 =>
    q_gR h1 (.ref l0) 1 5 fun r4 =>
    q_ald h1 (.ref r4) 0 l4 fun x5 =>
    q_gR h1 (.ref l0) 1 0 fun r6 =>
    q_gR h1 (.ref r6) 6 10 fun r7 =>
    q_ald h1 (.ref r7) 0 x2 fun x8 =>
    q_ast h1 (.ref r3) 0 l4 (if (9999 : Int32) < (x5 + x8) then (9999 : Int32) else (x5 + x8)) fun h9 =>
    q_run qm_X1_flick call 117 [.ref l0, l1, l2, l3, .int l4, l5, .int x2] [] h9) := by
  refine (q_cut_eq _ _ [0, 30, 75, 117] 200 _ _ _ _).trans ?_
  rfl
set_option maxRecDepth 20000 in
theorem k_X1_flick_117 (call : Nat → List Value → qH → qR) (l0 : Value) (l1 : Value) (l2 : Value) (l3 : Value) (l4 : Value) (l5 : Value) (l6 : Value) (h : qH) : q_run qm_X1_flick call 117 [l0, l1, l2, l3, l4, l5, l6] [] h =
  q_boo true (1 : Int32) fun z => some (.inl (some (.int z)), h) := by
  refine (q_cut_eq _ _ [0, 30, 75, 117] 200 _ _ _ _).trans ?_
  rfl
set_option maxRecDepth 20000 in
theorem k_X1_dampen_0 (call : Nat → List Value → qH → qR) (l0 : Nat) (l1 : Int32) (h : qH) : q_run qm_X1_dampen call 0 [.ref l0, .int l1, q_junk] [] h =
  q_gI h (.ref l0) 1 8 fun x1 =>
  if q_cmp .eq x1 l1 = true then
    q_run qm_X1_dampen call 13 [.ref l0, .int l1, q_junk] [.int (0 : Int32)] h
  else
    q_run qm_X1_dampen call 13 [.ref l0, .int l1, q_junk] [.int (1 : Int32)] h := by
  refine (q_cut_eq _ _ [0, 13] 200 _ _ _ _).trans ?_
  rfl
set_option maxRecDepth 20000 in
theorem k_X1_dampen_13 (call : Nat → List Value → qH → qR) (l0 : Nat) (l1 : Int32) (l2 : Value) (s0 : Int32) (h : qH) : q_run qm_X1_dampen call 13 [.ref l0, .int l1, l2] [.int s0] h =
  q_pV h (.ref l0) 1 8 (.int l1) fun h1 =>
  q_boo true s0 fun z => some (.inl (some (.int z)), h1) := by
  refine (q_cut_eq _ _ [0, 13] 200 _ _ _ _).trans ?_
  rfl
set_option maxRecDepth 20000 in
theorem k_X1_shakeAll_0 (call : Nat → List Value → qH → qR) (l0 : Nat) (h : qH) : q_run qm_X1_shakeAll call 0 [.ref l0, q_junk, q_junk] [] h =
  q_rcv h (.ref l0) 1 (q_rI (call 26 [.ref l0] h) q_t0 fun x2 h1 =>
  q_run qm_X1_shakeAll call 7 [.ref l0, .int x2, .int (0 : Int32)] [] h1) := by
  refine (q_cut_eq _ _ [0, 7, 34, 49] 200 _ _ _ _).trans ?_
  rfl
set_option maxRecDepth 20000 in
theorem k_X1_shakeAll_7 (call : Nat → List Value → qH → qR) (l0 : Nat) (l1 : Int32) (l2 : Int32) (h : qH) : q_run qm_X1_shakeAll call 7 [.ref l0, .int l1, .int l2] [] h =
  q_gR h (.ref l0) 1 0 fun r1 =>
  q_gI h (.ref r1) 6 1 fun x2 =>
  if q_cmp .ge l2 x2 = true then
    if q_cmp .eq l1 (0 : Int32) = true then
      q_run qm_X1_shakeAll call 49 [.ref l0, .int l1, .int l2] [.int (0 : Int32)] h
    else
      q_run qm_X1_shakeAll call 49 [.ref l0, .int l1, .int l2] [.int (1 : Int32)] h
  else
    if q_cmp .ne ((l1 >>> (l2 &&& 31)) &&& (1 : Int32)) (1 : Int32) = true then
      q_run qm_X1_shakeAll call 34 [.ref l0, .int l1, .int l2] [] h
    else
      q_rcv h (.ref l0) 1 (q_rI (call 36 [.ref l0, .int l2, .int (1 : Int32)] h) q_t0 fun x4 h3 =>
      q_run qm_X1_shakeAll call 34 [.ref l0, .int l1, .int l2] [] h3) := by
  refine (q_cut_eq _ _ [0, 7, 34, 49] 200 _ _ _ _).trans ?_
  rfl
set_option maxRecDepth 20000 in
theorem k_X1_shakeAll_34 (call : Nat → List Value → qH → qR) (l0 : Nat) (l1 : Int32) (l2 : Int32) (h : qH) : q_run qm_X1_shakeAll call 34 [.ref l0, .int l1, .int l2] [] h =
  q_run qm_X1_shakeAll call 7 [.ref l0, .int l1, .int (l2 + (1 : Int32))] [] h := by
  refine (q_cut_eq _ _ [0, 7, 34, 49] 200 _ _ _ _).trans ?_
  rfl
set_option maxRecDepth 20000 in
theorem k_X1_shakeAll_49 (call : Nat → List Value → qH → qR) (l0 : Value) (l1 : Value) (l2 : Value) (s0 : Int32) (h : qH) : q_run qm_X1_shakeAll call 49 [l0, l1, l2] [.int s0] h =
  q_boo true s0 fun z => some (.inl (some (.int z)), h) := by
  refine (q_cut_eq _ _ [0, 7, 34, 49] 200 _ _ _ _).trans ?_
  rfl
set_option maxRecDepth 20000 in
theorem k_X1_endDay_0 (call : Nat → List Value → qH → qR) (l0 : Nat) (h : qH) : q_run qm_X1_endDay call 0 [.ref l0] [] h =
  q_gI h (.ref l0) 1 7 fun x1 =>
  if q_cmp .lt x1 (500 : Int32) = true then
    q_rcv h (.ref l0) 1 (q_rV (call 43 [.ref l0] h) q_t0 fun h2 =>
    q_boo true (1 : Int32) fun z => some (.inl (some (.int z)), h2))
  else
    q_boo true (0 : Int32) fun z => some (.inl (some (.int z)), h) := by
  refine (q_cut_eq _ _ [0] 200 _ _ _ _).trans ?_
  rfl
set_option maxRecDepth 20000 in
theorem k_X1_passDay_0 (call : Nat → List Value → qH → qR) (l0 : Nat) (h : qH) : q_run qm_X1_passDay call 0 [.ref l0, q_junk] [] h =
  q_run qm_X1_passDay call 2 [.ref l0, .int (0 : Int32)] [] h := by
  refine (q_cut_eq _ _ [0, 2, 26] 200 _ _ _ _).trans ?_
  rfl
set_option maxRecDepth 20000 in
theorem k_X1_passDay_2 (call : Nat → List Value → qH → qR) (l0 : Nat) (l1 : Int32) (h : qH) : q_run qm_X1_passDay call 2 [.ref l0, .int l1] [] h =
  q_gR h (.ref l0) 1 0 fun r1 =>
  q_gI h (.ref r1) 6 1 fun x2 =>
  if q_cmp .ge l1 x2 = true then
    q_gI h (.ref l0) 1 7 fun x3 =>
    q_pV h (.ref l0) 1 7 (.int (x3 + (1 : Int32))) fun h4 =>
    some (.inl none, h4)
  else
    q_rcv h (.ref l0) 1 (q_rI (call 25 [.ref l0, .int l1] h) q_t0 fun x6 h5 =>
    if q_cmp .eq x6 (0 : Int32) = true then
      q_run qm_X1_passDay call 26 [.ref l0, .int l1] [] h5
    else
      q_rcv h5 (.ref l0) 1 (q_rV (call 44 [.ref l0, .int l1] h5) q_t0 fun h7 =>
      q_run qm_X1_passDay call 26 [.ref l0, .int l1] [] h7)) := by
  refine (q_cut_eq _ _ [0, 2, 26] 200 _ _ _ _).trans ?_
  rfl
set_option maxRecDepth 20000 in
theorem k_X1_passDay_26 (call : Nat → List Value → qH → qR) (l0 : Nat) (l1 : Int32) (h : qH) : q_run qm_X1_passDay call 26 [.ref l0, .int l1] [] h =
  q_run qm_X1_passDay call 2 [.ref l0, .int (l1 + (1 : Int32))] [] h := by
  refine (q_cut_eq _ _ [0, 2, 26] 200 _ _ _ _).trans ?_
  rfl
set_option maxRecDepth 20000 in
theorem k_X1_payRent_0 (call : Nat → List Value → qH → qR) (l0 : Nat) (l1 : Int32) (h : qH) : q_run qm_X1_payRent call 0 [.ref l0, .int l1, q_junk, q_junk, q_junk] [] h =
  q_gR h (.ref l0) 1 0 fun r1 =>
  q_gR h (.ref r1) 6 6 fun r2 =>
  q_ald h (.ref r2) 0 l1 fun x3 =>
  q_gR h (.ref l0) 1 2 fun r4 =>
  q_ald h (.ref r4) 0 l1 fun x5 =>
  q_gR h (.ref l0) 1 3 fun r6 =>
  q_ald h (.ref r6) 0 l1 fun x7 =>
  q_rcv h (.ref l0) 1 (q_rI (call 23 [.ref l0, .int l1] h) q_t0 fun x9 h8 =>
  q_rcv h8 (.ref l0) 1 (q_rI (call 31 [.ref l0, .int x5, .int (x7 + x9)] h8) q_t0 fun x11 h10 =>
  if q_cmp .eq x11 (-1 : Int32) = true then
    q_run qm_X1_payRent call 48 [.ref l0, .int l1, .int x3, .int x11, q_junk] [] h10
  else
    q_gR h10 (.ref l0) 1 5 fun r12 =>
    q_ald h10 (.ref r12) 0 x3 fun x13 =>
    if q_cmp .ge x13 (1 : Int32) = true then
      q_gR h10 (.ref l0) 1 0 fun r14 =>
      q_gR h10 (.ref r14) 6 6 fun r15 =>
      q_ald h10 (.ref r15) 0 x11 fun x16 =>
      q_gR h10 (.ref l0) 1 5 fun r17 =>
      q_ald h10 (.ref r17) 0 x3 fun x18 =>
      q_ast h10 (.ref r17) 0 x3 (x18 - (1 : Int32)) fun h19 =>
      q_gR h19 (.ref l0) 1 5 fun r20 =>
      q_gR h19 (.ref l0) 1 5 fun r21 =>
      q_ald h19 (.ref r21) 0 x16 fun x22 =>
      q_ast h19 (.ref r20) 0 x16 (if (9999 : Int32) < (x22 + (1 : Int32)) then (9999 : Int32) else (x22 + (1 : Int32))) fun h23 =>
      some (.inl none, h23)
    else
      q_run qm_X1_payRent call 48 [.ref l0, .int l1, .int x3, .int x11, q_junk] [] h10)) := by
  refine (q_cut_eq _ _ [0, 48] 200 _ _ _ _).trans ?_
  rfl
set_option maxRecDepth 20000 in
theorem k_X1_payRent_48 (call : Nat → List Value → qH → qR) (l0 : Value) (l1 : Value) (l2 : Value) (l3 : Value) (l4 : Value) (h : qH) : q_run qm_X1_payRent call 48 [l0, l1, l2, l3, l4] [] h =
  some (.inl none, h) := by
  refine (q_cut_eq _ _ [0, 48] 200 _ _ _ _).trans ?_
  rfl
