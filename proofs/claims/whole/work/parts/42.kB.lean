set_option maxRecDepth 20000 in
theorem k_X4_init_0 (call : Nat → List Value → qH → qR) (l0 : Nat) (l1 : Nat) (h : qH) : q_run qm_X4_init call 0 [.ref l0, .ref l1] [] h =
  q_nar h 0 (37 : Int32) fun r1 h2 =>
  q_pV h2 (.ref l0) 4 0 (.ref r1) fun h3 =>
  q_pV h3 (.ref l0) 4 1 (.ref l1) fun h4 =>
  q_gI h4 (.ref l1) 4 2 fun x5 =>
  q_run qm_X4_init call 32 [.ref l0, .ref l1] [.int (x5 + (1 : Int32)), .ref l0] h4 := by
  refine (q_cut_eq _ _ [0, 32] 200 _ _ _ _).trans ?_
  rfl
set_option maxRecDepth 20000 in
theorem k_X4_init_32 (call : Nat → List Value → qH → qR) (l0 : Value) (l1 : Value) (s0 : Nat) (s1 : Int32) (h : qH) : q_run qm_X4_init call 32 [l0, l1] [.int s1, .ref s0] h =
  q_pV h (.ref s0) 4 2 (.int s1) fun h1 =>
  some (.inl none, h1) := by
  refine (q_cut_eq _ _ [0, 32] 200 _ _ _ _).trans ?_
  rfl
set_option maxRecDepth 20000 in
theorem k_X5_init_0 (call : Nat → List Value → qH → qR) (l0 : Nat) (h : qH) : q_run qm_X5_init call 0 [.ref l0] [] h =
  q_nar h 0 (150 : Int32) fun r1 h2 =>
  q_pV h2 (.ref l0) 5 0 (.ref r1) fun h3 =>
  q_nar h3 0 (150 : Int32) fun r4 h5 =>
  q_pV h5 (.ref l0) 5 1 (.ref r4) fun h6 =>
  q_nar h6 0 (32 : Int32) fun r7 h8 =>
  q_pV h8 (.ref l0) 5 2 (.ref r7) fun h9 =>
  q_run qm_X5_init call 30 [.ref l0] [] h9 := by
  refine (q_cut_eq _ _ [0, 30] 200 _ _ _ _).trans ?_
  rfl
set_option maxRecDepth 20000 in
theorem k_X5_init_30 (call : Nat → List Value → qH → qR) (l0 : Nat) (h : qH) : q_run qm_X5_init call 30 [.ref l0] [] h =
  q_nar h 0 (9 : Int32) fun r1 h2 =>
  q_pV h2 (.ref l0) 5 3 (.ref r1) fun h3 =>
  q_rcv h3 (.ref l0) 5 (q_rV (call 64 [.ref l0] h3) q_t0 fun h4 =>
  some (.inl none, h4)) := by
  refine (q_cut_eq _ _ [0, 30] 200 _ _ _ _).trans ?_
  rfl
set_option maxRecDepth 20000 in
theorem k_X5_setPlain_0 (call : Nat → List Value → qH → qR) (l0 : Nat) (h : qH) : q_run qm_X5_setPlain call 0 [.ref l0] [] h =
  q_gR h (.ref l0) 5 0 fun r1 =>
  q_len h (.ref 1) fun x2 =>
  q_cpy h (.ref 1) (0 : Int32) (.ref r1) (0 : Int32) x2 fun h3 =>
  q_len h3 (.ref 1) fun x4 =>
  q_pV h3 (.ref l0) 5 4 (.int x4) fun h5 =>
  some (.inl none, h5) := by
  refine (q_cut_eq _ _ [0] 200 _ _ _ _).trans ?_
  rfl
set_option maxRecDepth 20000 in
theorem k_X5_readFrom_0 (call : Nat → List Value → qH → qR) (l0 : Nat) (l1 : Nat) (h : qH) : q_run qm_X5_readFrom call 0 [.ref l0, .ref l1] [] h =
  q_pV h (.ref l0) 5 5 (.int (0 : Int32)) fun h1 =>
  q_rcv h1 (.ref l0) 5 (q_rI (call 66 [.ref l0, .ref l1, .int (0 : Int32)] h1) q_t0 fun x3 h2 =>
  if q_cmp .ne x3 (0 : Int32) = true then
    q_rcv h2 (.ref l1) 9 (q_rI (call 105 [.ref l1] h2) q_t0 fun x5 h4 =>
    if q_cmp .eq x5 (-1 : Int32) = true then
      q_gR h4 (.ref l0) 5 1 fun r6 =>
      q_gR h4 (.ref l0) 5 0 fun r7 =>
      q_gI h4 (.ref l0) 5 5 fun x8 =>
      q_cpy h4 (.ref r6) (0 : Int32) (.ref r7) (0 : Int32) x8 fun h9 =>
      q_gI h9 (.ref l0) 5 5 fun x10 =>
      q_pV h9 (.ref l0) 5 4 (.int x10) fun h11 =>
      q_boo true (1 : Int32) fun z => some (.inl (some (.int z)), h11)
    else
      q_gI h4 (.ref l1) 9 4 fun x12 =>
      q_rcv h4 (.ref l1) 9 (q_rI (call 104 [.ref l1, .int (1 : Int32), .int x12] h4) q_t0 fun x14 h13 =>
      q_boo true x14 fun z => some (.inl (some (.int z)), h13)))
  else
    q_boo true (0 : Int32) fun z => some (.inl (some (.int z)), h2)) := by
  refine (q_cut_eq _ _ [0] 200 _ _ _ _).trans ?_
  rfl
set_option maxRecDepth 20000 in
theorem k_X5_readSum_0 (call : Nat → List Value → qH → qR) (l0 : Nat) (l1 : Nat) (l2 : Int32) (h : qH) : q_run qm_X5_readSum call 0 [.ref l0, .ref l1, .int l2, q_junk, q_junk] [] h =
  q_rcv h (.ref l0) 5 (q_rI (call 67 [.ref l0, .ref l1, .int l2] h) q_t0 fun x2 h1 =>
  if q_cmp .ne x2 (0 : Int32) = true then
    q_run qm_X5_readSum call 13 [.ref l0, .ref l1, .int l2, .int (0 : Int32), q_junk] [] h1
  else
    q_boo true (0 : Int32) fun z => some (.inl (some (.int z)), h1)) := by
  refine (q_cut_eq _ _ [0, 13, 42, 74] 200 _ _ _ _).trans ?_
  rfl
set_option maxRecDepth 20000 in
theorem k_X5_readSum_13 (call : Nat → List Value → qH → qR) (l0 : Nat) (l1 : Nat) (l2 : Int32) (l3 : Int32) (l4 : Value) (h : qH) : q_run qm_X5_readSum call 13 [.ref l0, .ref l1, .int l2, .int l3, l4] [] h =
  if q_cmp .ge l3 (150 : Int32) = true then
    q_boo true (1 : Int32) fun z => some (.inl (some (.int z)), h)
  else
    q_rcv h (.ref l1) 9 (q_rI (call 105 [.ref l1] h) q_t0 fun x2 h1 =>
    if q_cmp .eq x2 (43 : Int32) = true then
      q_run qm_X5_readSum call 42 [.ref l0, .ref l1, .int l2, .int l3, .int x2] [] h1
    else
      if q_cmp .eq x2 (45 : Int32) = true then
        q_run qm_X5_readSum call 42 [.ref l0, .ref l1, .int l2, .int l3, .int x2] [] h1
      else
        q_boo true (1 : Int32) fun z => some (.inl (some (.int z)), h1)) := by
  refine (q_cut_eq _ _ [0, 13, 42, 74] 200 _ _ _ _).trans ?_
  rfl
set_option maxRecDepth 20000 in
theorem k_X5_readSum_42 (call : Nat → List Value → qH → qR) (l0 : Nat) (l1 : Nat) (l2 : Int32) (l3 : Int32) (l4 : Int32) (h : qH) : q_run qm_X5_readSum call 42 [.ref l0, .ref l1, .int l2, .int l3, .int l4] [] h =
  q_rcv h (.ref l1) 9 (q_rV (call 106 [.ref l1] h) q_t0 fun h1 =>
  q_rcv h1 (.ref l0) 5 (q_rI (call 67 [.ref l0, .ref l1, .int l2] h1) q_t0 fun x4 h3 =>
  if q_cmp .ne x4 (0 : Int32) = true then
    if q_cmp .ne l4 (43 : Int32) = true then
      q_run qm_X5_readSum call 74 [.ref l0, .ref l1, .int l2, .int l3, .int l4] [.int (2001 : Int32), .ref l0] h3
    else
      q_run qm_X5_readSum call 74 [.ref l0, .ref l1, .int l2, .int l3, .int l4] [.int (2000 : Int32), .ref l0] h3
  else
    q_boo true (0 : Int32) fun z => some (.inl (some (.int z)), h3))) := by
  refine (q_cut_eq _ _ [0, 13, 42, 74] 200 _ _ _ _).trans ?_
  rfl
set_option maxRecDepth 20000 in
theorem k_X5_readSum_74 (call : Nat → List Value → qH → qR) (l0 : Nat) (l1 : Nat) (l2 : Int32) (l3 : Int32) (l4 : Value) (s0 : Nat) (s1 : Int32) (h : qH) : q_run qm_X5_readSum call 74 [.ref l0, .ref l1, .int l2, .int l3, l4] [.int s1, .ref s0] h =
  q_rcv h (.ref s0) 5 (q_rI (call 71 [.ref s0, .int s1] h) q_t0 fun x2 h1 =>
  q_run qm_X5_readSum call 13 [.ref l0, .ref l1, .int l2, .int (l3 + (1 : Int32)), l4] [] h1) := by
  refine (q_cut_eq _ _ [0, 13, 42, 74] 200 _ _ _ _).trans ?_
  rfl
set_option maxRecDepth 20000 in
theorem k_X5_readProduct_0 (call : Nat → List Value → qH → qR) (l0 : Nat) (l1 : Nat) (l2 : Int32) (h : qH) : q_run qm_X5_readProduct call 0 [.ref l0, .ref l1, .int l2, q_junk, q_junk] [] h =
  q_rcv h (.ref l0) 5 (q_rI (call 68 [.ref l0, .ref l1, .int l2] h) q_t0 fun x2 h1 =>
  if q_cmp .ne x2 (0 : Int32) = true then
    q_run qm_X5_readProduct call 13 [.ref l0, .ref l1, .int l2, .int (0 : Int32), q_junk] [] h1
  else
    q_boo true (0 : Int32) fun z => some (.inl (some (.int z)), h1)) := by
  refine (q_cut_eq _ _ [0, 13, 42, 74] 200 _ _ _ _).trans ?_
  rfl
set_option maxRecDepth 20000 in
theorem k_X5_readProduct_13 (call : Nat → List Value → qH → qR) (l0 : Nat) (l1 : Nat) (l2 : Int32) (l3 : Int32) (l4 : Value) (h : qH) : q_run qm_X5_readProduct call 13 [.ref l0, .ref l1, .int l2, .int l3, l4] [] h =
  if q_cmp .ge l3 (150 : Int32) = true then
    q_boo true (1 : Int32) fun z => some (.inl (some (.int z)), h)
  else
    q_rcv h (.ref l1) 9 (q_rI (call 105 [.ref l1] h) q_t0 fun x2 h1 =>
    if q_cmp .eq x2 (42 : Int32) = true then
      q_run qm_X5_readProduct call 42 [.ref l0, .ref l1, .int l2, .int l3, .int x2] [] h1
    else
      if q_cmp .eq x2 (47 : Int32) = true then
        q_run qm_X5_readProduct call 42 [.ref l0, .ref l1, .int l2, .int l3, .int x2] [] h1
      else
        q_boo true (1 : Int32) fun z => some (.inl (some (.int z)), h1)) := by
  refine (q_cut_eq _ _ [0, 13, 42, 74] 200 _ _ _ _).trans ?_
  rfl
set_option maxRecDepth 20000 in
theorem k_X5_readProduct_42 (call : Nat → List Value → qH → qR) (l0 : Nat) (l1 : Nat) (l2 : Int32) (l3 : Int32) (l4 : Int32) (h : qH) : q_run qm_X5_readProduct call 42 [.ref l0, .ref l1, .int l2, .int l3, .int l4] [] h =
  q_rcv h (.ref l1) 9 (q_rV (call 106 [.ref l1] h) q_t0 fun h1 =>
  q_rcv h1 (.ref l0) 5 (q_rI (call 68 [.ref l0, .ref l1, .int l2] h1) q_t0 fun x4 h3 =>
  if q_cmp .ne x4 (0 : Int32) = true then
    if q_cmp .ne l4 (42 : Int32) = true then
      q_run qm_X5_readProduct call 74 [.ref l0, .ref l1, .int l2, .int l3, .int l4] [.int (2003 : Int32), .ref l0] h3
    else
      q_run qm_X5_readProduct call 74 [.ref l0, .ref l1, .int l2, .int l3, .int l4] [.int (2002 : Int32), .ref l0] h3
  else
    q_boo true (0 : Int32) fun z => some (.inl (some (.int z)), h3))) := by
  refine (q_cut_eq _ _ [0, 13, 42, 74] 200 _ _ _ _).trans ?_
  rfl
set_option maxRecDepth 20000 in
theorem k_X5_readProduct_74 (call : Nat → List Value → qH → qR) (l0 : Nat) (l1 : Nat) (l2 : Int32) (l3 : Int32) (l4 : Value) (s0 : Nat) (s1 : Int32) (h : qH) : q_run qm_X5_readProduct call 74 [.ref l0, .ref l1, .int l2, .int l3, l4] [.int s1, .ref s0] h =
  q_rcv h (.ref s0) 5 (q_rI (call 71 [.ref s0, .int s1] h) q_t0 fun x2 h1 =>
  q_run qm_X5_readProduct call 13 [.ref l0, .ref l1, .int l2, .int (l3 + (1 : Int32)), l4] [] h1) := by
  refine (q_cut_eq _ _ [0, 13, 42, 74] 200 _ _ _ _).trans ?_
  rfl
set_option maxRecDepth 20000 in
theorem k_X5_readUnit_0 (call : Nat → List Value → qH → qR) (l0 : Nat) (l1 : Nat) (l2 : Int32) (h : qH) : q_run qm_X5_readUnit call 0 [.ref l0, .ref l1, .int l2, q_junk, q_junk] [] h =
  q_rcv h (.ref l1) 9 (q_rI (call 105 [.ref l1] h) q_t0 fun x2 h1 =>
  if q_cmp .lt x2 (48 : Int32) = true then
    q_run qm_X5_readUnit call 45 [.ref l0, .ref l1, .int l2, .int x2, q_junk] [] h1
  else
    if q_cmp .gt x2 (57 : Int32) = true then
      q_run qm_X5_readUnit call 45 [.ref l0, .ref l1, .int l2, .int x2, q_junk] [] h1
    else
      q_rcv h1 (.ref l1) 9 (q_rI (call 108 [.ref l1, .int (0 : Int32), .int (999 : Int32)] h1) q_t0 fun x4 h3 =>
      if q_cmp .eq x4 (0 : Int32) = true then
        q_run qm_X5_readUnit call 43 [.ref l0, .ref l1, .int l2, .int x2, q_junk] [] h3
      else
        q_gI h3 (.ref l1) 9 5 fun x5 =>
        q_rcv h3 (.ref l0) 5 (q_rI (call 71 [.ref l0, .int x5] h3) q_t0 fun x7 h6 =>
        if q_cmp .eq x7 (0 : Int32) = true then
          q_run qm_X5_readUnit call 43 [.ref l0, .ref l1, .int l2, .int x2, q_junk] [] h6
        else
          q_run qm_X5_readUnit call 44 [.ref l0, .ref l1, .int l2, .int x2, q_junk] [.int (1 : Int32)] h6))) := by
  refine (q_cut_eq _ _ [0, 43, 44, 45, 63, 102, 103, 134, 165, 166, 188, 219, 220, 255] 200 _ _ _ _).trans ?_
  rfl
set_option maxRecDepth 20000 in
theorem k_X5_readUnit_43 (call : Nat → List Value → qH → qR) (l0 : Value) (l1 : Value) (l2 : Value) (l3 : Value) (l4 : Value) (h : qH) : q_run qm_X5_readUnit call 43 [l0, l1, l2, l3, l4] [] h =
  q_run qm_X5_readUnit call 44 [l0, l1, l2, l3, l4] [.int (0 : Int32)] h := by
  refine (q_cut_eq _ _ [0, 43, 44, 45, 63, 102, 103, 134, 165, 166, 188, 219, 220, 255] 200 _ _ _ _).trans ?_
  rfl
set_option maxRecDepth 20000 in
theorem k_X5_readUnit_44 (call : Nat → List Value → qH → qR) (l0 : Value) (l1 : Value) (l2 : Value) (l3 : Value) (l4 : Value) (s0 : Int32) (h : qH) : q_run qm_X5_readUnit call 44 [l0, l1, l2, l3, l4] [.int s0] h =
  q_boo true s0 fun z => some (.inl (some (.int z)), h) := by
  refine (q_cut_eq _ _ [0, 43, 44, 45, 63, 102, 103, 134, 165, 166, 188, 219, 220, 255] 200 _ _ _ _).trans ?_
  rfl
set_option maxRecDepth 20000 in
theorem k_X5_readUnit_45 (call : Nat → List Value → qH → qR) (l0 : Nat) (l1 : Nat) (l2 : Int32) (l3 : Int32) (l4 : Value) (h : qH) : q_run qm_X5_readUnit call 45 [.ref l0, .ref l1, .int l2, .int l3, l4] [] h =
  if q_cmp .ne l3 (40 : Int32) = true then
    q_rcv h (.ref l1) 9 (q_rI (call 109 [.ref l1] h) q_t0 fun x2 h1 =>
    if q_cmp .ne x2 (0 : Int32) = true then
      q_rcv h1 (.ref l1) 9 (q_rI (call 110 [.ref l1, .float 5] h1) q_t0 fun x4 h3 =>
      if q_cmp .eq x4 (0 : Int32) = true then
        q_rcv h3 (.ref l1) 9 (q_rI (call 110 [.ref l1, .float 6] h3) q_t0 fun x6 h5 =>
        if q_cmp .eq x6 (0 : Int32) = true then
          q_rI (call 70 [.ref l1] h5) q_t0 fun x8 h7 =>
          if q_cmp .ne x8 (-1 : Int32) = true then
            q_rcv h7 (.ref l0) 5 (q_rI (call 71 [.ref l0, .int ((1000 : Int32) + x8)] h7) q_t0 fun x10 h9 =>
            q_run qm_X5_readUnit call 255 [.ref l0, .ref l1, .int l2, .int l3, .int x8] [.int x10] h9)
          else
            q_gI h7 (.ref l1) 9 4 fun x11 =>
            q_rcv h7 (.ref l1) 9 (q_rI (call 104 [.ref l1, .int (1 : Int32), .int x11] h7) q_t0 fun x13 h12 =>
            q_run qm_X5_readUnit call 255 [.ref l0, .ref l1, .int l2, .int l3, .int x8] [.int x13] h12)
        else
          if q_cmp .ge l2 (6 : Int32) = true then
            q_run qm_X5_readUnit call 188 [.ref l0, .ref l1, .int l2, .int l3, l4] [.int (0 : Int32), .ref l1] h5
          else
            q_run qm_X5_readUnit call 188 [.ref l0, .ref l1, .int l2, .int l3, l4] [.int (1 : Int32), .ref l1] h5)
      else
        if q_cmp .ge l2 (6 : Int32) = true then
          q_run qm_X5_readUnit call 134 [.ref l0, .ref l1, .int l2, .int l3, l4] [.int (0 : Int32), .ref l1] h3
        else
          q_run qm_X5_readUnit call 134 [.ref l0, .ref l1, .int l2, .int l3, l4] [.int (1 : Int32), .ref l1] h3)
    else
      q_boo true (0 : Int32) fun z => some (.inl (some (.int z)), h1))
  else
    if q_cmp .ge l2 (6 : Int32) = true then
      q_run qm_X5_readUnit call 63 [.ref l0, .ref l1, .int l2, .int l3, l4] [.int (0 : Int32), .ref l1] h
    else
      q_run qm_X5_readUnit call 63 [.ref l0, .ref l1, .int l2, .int l3, l4] [.int (1 : Int32), .ref l1] h := by
  refine (q_cut_eq _ _ [0, 43, 44, 45, 63, 102, 103, 134, 165, 166, 188, 219, 220, 255] 200 _ _ _ _).trans ?_
  rfl
set_option maxRecDepth 20000 in
theorem k_X5_readUnit_63 (call : Nat → List Value → qH → qR) (l0 : Nat) (l1 : Nat) (l2 : Int32) (l3 : Value) (l4 : Value) (s0 : Nat) (s1 : Int32) (h : qH) : q_run qm_X5_readUnit call 63 [.ref l0, .ref l1, .int l2, l3, l4] [.int s1, .ref s0] h =
  q_rcv h (.ref s0) 9 (q_rI (call 111 [.ref s0, .int s1] h) q_t0 fun x2 h1 =>
  if q_cmp .eq x2 (0 : Int32) = true then
    q_run qm_X5_readUnit call 102 [.ref l0, .ref l1, .int l2, l3, l4] [] h1
  else
    q_rcv h1 (.ref l1) 9 (q_rI (call 107 [.ref l1, .int (40 : Int32)] h1) q_t0 fun x4 h3 =>
    if q_cmp .eq x4 (0 : Int32) = true then
      q_run qm_X5_readUnit call 102 [.ref l0, .ref l1, .int l2, l3, l4] [] h3
    else
      q_rcv h3 (.ref l0) 5 (q_rI (call 66 [.ref l0, .ref l1, .int (l2 + (1 : Int32))] h3) q_t0 fun x6 h5 =>
      if q_cmp .eq x6 (0 : Int32) = true then
        q_run qm_X5_readUnit call 102 [.ref l0, .ref l1, .int l2, l3, l4] [] h5
      else
        q_rcv h5 (.ref l1) 9 (q_rI (call 107 [.ref l1, .int (41 : Int32)] h5) q_t0 fun x8 h7 =>
        if q_cmp .eq x8 (0 : Int32) = true then
          q_run qm_X5_readUnit call 102 [.ref l0, .ref l1, .int l2, l3, l4] [] h7
        else
          q_run qm_X5_readUnit call 103 [.ref l0, .ref l1, .int l2, l3, l4] [.int (1 : Int32)] h7)))) := by
  refine (q_cut_eq _ _ [0, 43, 44, 45, 63, 102, 103, 134, 165, 166, 188, 219, 220, 255] 200 _ _ _ _).trans ?_
  rfl
set_option maxRecDepth 20000 in
theorem k_X5_readUnit_102 (call : Nat → List Value → qH → qR) (l0 : Value) (l1 : Value) (l2 : Value) (l3 : Value) (l4 : Value) (h : qH) : q_run qm_X5_readUnit call 102 [l0, l1, l2, l3, l4] [] h =
  q_run qm_X5_readUnit call 103 [l0, l1, l2, l3, l4] [.int (0 : Int32)] h := by
  refine (q_cut_eq _ _ [0, 43, 44, 45, 63, 102, 103, 134, 165, 166, 188, 219, 220, 255] 200 _ _ _ _).trans ?_
  rfl
set_option maxRecDepth 20000 in
theorem k_X5_readUnit_103 (call : Nat → List Value → qH → qR) (l0 : Value) (l1 : Value) (l2 : Value) (l3 : Value) (l4 : Value) (s0 : Int32) (h : qH) : q_run qm_X5_readUnit call 103 [l0, l1, l2, l3, l4] [.int s0] h =
  q_boo true s0 fun z => some (.inl (some (.int z)), h) := by
  refine (q_cut_eq _ _ [0, 43, 44, 45, 63, 102, 103, 134, 165, 166, 188, 219, 220, 255] 200 _ _ _ _).trans ?_
  rfl
set_option maxRecDepth 20000 in
theorem k_X5_readUnit_134 (call : Nat → List Value → qH → qR) (l0 : Nat) (l1 : Nat) (l2 : Int32) (l3 : Value) (l4 : Value) (s0 : Nat) (s1 : Int32) (h : qH) : q_run qm_X5_readUnit call 134 [.ref l0, .ref l1, .int l2, l3, l4] [.int s1, .ref s0] h =
  q_rcv h (.ref s0) 9 (q_rI (call 111 [.ref s0, .int s1] h) q_t0 fun x2 h1 =>
  if q_cmp .eq x2 (0 : Int32) = true then
    q_run qm_X5_readUnit call 165 [.ref l0, .ref l1, .int l2, l3, l4] [] h1
  else
    q_rcv h1 (.ref l0) 5 (q_rI (call 69 [.ref l0, .ref l1, .int (l2 + (1 : Int32))] h1) q_t0 fun x4 h3 =>
    if q_cmp .eq x4 (0 : Int32) = true then
      q_run qm_X5_readUnit call 165 [.ref l0, .ref l1, .int l2, l3, l4] [] h3
    else
      q_rcv h3 (.ref l0) 5 (q_rI (call 71 [.ref l0, .int (2004 : Int32)] h3) q_t0 fun x6 h5 =>
      if q_cmp .eq x6 (0 : Int32) = true then
        q_run qm_X5_readUnit call 165 [.ref l0, .ref l1, .int l2, l3, l4] [] h5
      else
        q_run qm_X5_readUnit call 166 [.ref l0, .ref l1, .int l2, l3, l4] [.int (1 : Int32)] h5))) := by
  refine (q_cut_eq _ _ [0, 43, 44, 45, 63, 102, 103, 134, 165, 166, 188, 219, 220, 255] 200 _ _ _ _).trans ?_
  rfl
set_option maxRecDepth 20000 in
theorem k_X5_readUnit_165 (call : Nat → List Value → qH → qR) (l0 : Value) (l1 : Value) (l2 : Value) (l3 : Value) (l4 : Value) (h : qH) : q_run qm_X5_readUnit call 165 [l0, l1, l2, l3, l4] [] h =
  q_run qm_X5_readUnit call 166 [l0, l1, l2, l3, l4] [.int (0 : Int32)] h := by
  refine (q_cut_eq _ _ [0, 43, 44, 45, 63, 102, 103, 134, 165, 166, 188, 219, 220, 255] 200 _ _ _ _).trans ?_
  rfl
set_option maxRecDepth 20000 in
theorem k_X5_readUnit_166 (call : Nat → List Value → qH → qR) (l0 : Value) (l1 : Value) (l2 : Value) (l3 : Value) (l4 : Value) (s0 : Int32) (h : qH) : q_run qm_X5_readUnit call 166 [l0, l1, l2, l3, l4] [.int s0] h =
  q_boo true s0 fun z => some (.inl (some (.int z)), h) := by
  refine (q_cut_eq _ _ [0, 43, 44, 45, 63, 102, 103, 134, 165, 166, 188, 219, 220, 255] 200 _ _ _ _).trans ?_
  rfl
set_option maxRecDepth 20000 in
theorem k_X5_readUnit_188 (call : Nat → List Value → qH → qR) (l0 : Nat) (l1 : Nat) (l2 : Int32) (l3 : Value) (l4 : Value) (s0 : Nat) (s1 : Int32) (h : qH) : q_run qm_X5_readUnit call 188 [.ref l0, .ref l1, .int l2, l3, l4] [.int s1, .ref s0] h =
  q_rcv h (.ref s0) 9 (q_rI (call 111 [.ref s0, .int s1] h) q_t0 fun x2 h1 =>
  if q_cmp .eq x2 (0 : Int32) = true then
    q_run qm_X5_readUnit call 219 [.ref l0, .ref l1, .int l2, l3, l4] [] h1
  else
    q_rcv h1 (.ref l0) 5 (q_rI (call 69 [.ref l0, .ref l1, .int (l2 + (1 : Int32))] h1) q_t0 fun x4 h3 =>
    if q_cmp .eq x4 (0 : Int32) = true then
      q_run qm_X5_readUnit call 219 [.ref l0, .ref l1, .int l2, l3, l4] [] h3
    else
      q_rcv h3 (.ref l0) 5 (q_rI (call 71 [.ref l0, .int (2005 : Int32)] h3) q_t0 fun x6 h5 =>
      if q_cmp .eq x6 (0 : Int32) = true then
        q_run qm_X5_readUnit call 219 [.ref l0, .ref l1, .int l2, l3, l4] [] h5
      else
        q_run qm_X5_readUnit call 220 [.ref l0, .ref l1, .int l2, l3, l4] [.int (1 : Int32)] h5))) := by
  refine (q_cut_eq _ _ [0, 43, 44, 45, 63, 102, 103, 134, 165, 166, 188, 219, 220, 255] 200 _ _ _ _).trans ?_
  rfl
set_option maxRecDepth 20000 in
theorem k_X5_readUnit_219 (call : Nat → List Value → qH → qR) (l0 : Value) (l1 : Value) (l2 : Value) (l3 : Value) (l4 : Value) (h : qH) : q_run qm_X5_readUnit call 219 [l0, l1, l2, l3, l4] [] h =
  q_run qm_X5_readUnit call 220 [l0, l1, l2, l3, l4] [.int (0 : Int32)] h := by
  refine (q_cut_eq _ _ [0, 43, 44, 45, 63, 102, 103, 134, 165, 166, 188, 219, 220, 255] 200 _ _ _ _).trans ?_
  rfl
set_option maxRecDepth 20000 in
theorem k_X5_readUnit_220 (call : Nat → List Value → qH → qR) (l0 : Value) (l1 : Value) (l2 : Value) (l3 : Value) (l4 : Value) (s0 : Int32) (h : qH) : q_run qm_X5_readUnit call 220 [l0, l1, l2, l3, l4] [.int s0] h =
  q_boo true s0 fun z => some (.inl (some (.int z)), h) := by
  refine (q_cut_eq _ _ [0, 43, 44, 45, 63, 102, 103, 134, 165, 166, 188, 219, 220, 255] 200 _ _ _ _).trans ?_
  rfl
set_option maxRecDepth 20000 in
theorem k_X5_readUnit_255 (call : Nat → List Value → qH → qR) (l0 : Value) (l1 : Value) (l2 : Value) (l3 : Value) (l4 : Value) (s0 : Int32) (h : qH) : q_run qm_X5_readUnit call 255 [l0, l1, l2, l3, l4] [.int s0] h =
  q_boo true s0 fun z => some (.inl (some (.int z)), h) := by
  refine (q_cut_eq _ _ [0, 43, 44, 45, 63, 102, 103, 134, 165, 166, 188, 219, 220, 255] 200 _ _ _ _).trans ?_
  rfl
set_option maxRecDepth 20000 in
theorem k_X5_readPair_0 (call : Nat → List Value → qH → qR) (l0 : Nat) (l1 : Nat) (l2 : Int32) (h : qH) : q_run qm_X5_readPair call 0 [.ref l0, .ref l1, .int l2] [] h =
  q_rcv h (.ref l1) 9 (q_rI (call 107 [.ref l1, .int (91 : Int32)] h) q_t0 fun x2 h1 =>
  if q_cmp .eq x2 (0 : Int32) = true then
    q_run qm_X5_readPair call 49 [.ref l0, .ref l1, .int l2] [] h1
  else
    q_rcv h1 (.ref l0) 5 (q_rI (call 66 [.ref l0, .ref l1, .int l2] h1) q_t0 fun x4 h3 =>
    if q_cmp .eq x4 (0 : Int32) = true then
      q_run qm_X5_readPair call 49 [.ref l0, .ref l1, .int l2] [] h3
    else
      q_rcv h3 (.ref l1) 9 (q_rI (call 107 [.ref l1, .int (44 : Int32)] h3) q_t0 fun x6 h5 =>
      if q_cmp .eq x6 (0 : Int32) = true then
        q_run qm_X5_readPair call 49 [.ref l0, .ref l1, .int l2] [] h5
      else
        q_rcv h5 (.ref l0) 5 (q_rI (call 66 [.ref l0, .ref l1, .int l2] h5) q_t0 fun x8 h7 =>
        if q_cmp .eq x8 (0 : Int32) = true then
          q_run qm_X5_readPair call 49 [.ref l0, .ref l1, .int l2] [] h7
        else
          q_rcv h7 (.ref l1) 9 (q_rI (call 107 [.ref l1, .int (93 : Int32)] h7) q_t0 fun x10 h9 =>
          if q_cmp .eq x10 (0 : Int32) = true then
            q_run qm_X5_readPair call 49 [.ref l0, .ref l1, .int l2] [] h9
          else
            q_run qm_X5_readPair call 50 [.ref l0, .ref l1, .int l2] [.int (1 : Int32)] h9))))) := by
  refine (q_cut_eq _ _ [0, 49, 50] 200 _ _ _ _).trans ?_
  rfl
set_option maxRecDepth 20000 in
theorem k_X5_readPair_49 (call : Nat → List Value → qH → qR) (l0 : Value) (l1 : Value) (l2 : Value) (h : qH) : q_run qm_X5_readPair call 49 [l0, l1, l2] [] h =
  q_run qm_X5_readPair call 50 [l0, l1, l2] [.int (0 : Int32)] h := by
  refine (q_cut_eq _ _ [0, 49, 50] 200 _ _ _ _).trans ?_
  rfl
set_option maxRecDepth 20000 in
theorem k_X5_readPair_50 (call : Nat → List Value → qH → qR) (l0 : Value) (l1 : Value) (l2 : Value) (s0 : Int32) (h : qH) : q_run qm_X5_readPair call 50 [l0, l1, l2] [.int s0] h =
  q_boo true s0 fun z => some (.inl (some (.int z)), h) := by
  refine (q_cut_eq _ _ [0, 49, 50] 200 _ _ _ _).trans ?_
  rfl
set_option maxRecDepth 20000 in
theorem k_X5_whichSeen_0 (call : Nat → List Value → qH → qR) (l0 : Nat) (h : qH) : q_run qm_X5_whichSeen call 0 [.ref l0] [] h =
  q_rcv h (.ref l0) 9 (q_rI (call 110 [.ref l0, .float 7] h) q_t0 fun x2 h1 =>
  if q_cmp .eq x2 (0 : Int32) = true then
    q_rcv h1 (.ref l0) 9 (q_rI (call 110 [.ref l0, .float 8] h1) q_t0 fun x4 h3 =>
    if q_cmp .eq x4 (0 : Int32) = true then
      q_rcv h3 (.ref l0) 9 (q_rI (call 110 [.ref l0, .float 4] h3) q_t0 fun x6 h5 =>
      if q_cmp .eq x6 (0 : Int32) = true then
        q_rcv h5 (.ref l0) 9 (q_rI (call 110 [.ref l0, .float 9] h5) q_t0 fun x8 h7 =>
        if q_cmp .eq x8 (0 : Int32) = true then
          q_rcv h7 (.ref l0) 9 (q_rI (call 110 [.ref l0, .float 10] h7) q_t0 fun x10 h9 =>
          if q_cmp .eq x10 (0 : Int32) = true then
            q_rcv h9 (.ref l0) 9 (q_rI (call 110 [.ref l0, .float 11] h9) q_t0 fun x12 h11 =>
            if q_cmp .eq x12 (0 : Int32) = true then
              q_rcv h11 (.ref l0) 9 (q_rI (call 110 [.ref l0, .float 12] h11) q_t0 fun x14 h13 =>
              if q_cmp .eq x14 (0 : Int32) = true then
                q_rcv h13 (.ref l0) 9 (q_rI (call 110 [.ref l0, .float 13] h13) q_t0 fun x16 h15 =>
                if q_cmp .eq x16 (0 : Int32) = true then
                  q_rcv h15 (.ref l0) 9 (q_rI (call 110 [.ref l0, .float 14] h15) q_t0 fun x18 h17 =>
                  if q_cmp .eq x18 (0 : Int32) = true then
                    q_run qm_X5_whichSeen call 105 [.ref l0] [.int (-1 : Int32)] h17
                  else
                    q_run qm_X5_whichSeen call 105 [.ref l0] [.int (8 : Int32)] h17)
                else
                  q_run qm_X5_whichSeen call 87 [.ref l0] [] h15)
              else
                some (.inl (some (.int (6 : Int32))), h13))
            else
              some (.inl (some (.int (5 : Int32))), h11))
          else
            some (.inl (some (.int (4 : Int32))), h9))
        else
          some (.inl (some (.int (3 : Int32))), h7))
      else
        some (.inl (some (.int (2 : Int32))), h5))
    else
      some (.inl (some (.int (1 : Int32))), h3))
  else
    some (.inl (some (.int (0 : Int32))), h1)) := by
  refine (q_cut_eq _ _ [0, 87, 105] 200 _ _ _ _).trans ?_
  rfl
set_option maxRecDepth 20000 in
theorem k_X5_whichSeen_87 (call : Nat → List Value → qH → qR) (l0 : Value) (h : qH) : q_run qm_X5_whichSeen call 87 [l0] [] h =
  some (.inl (some (.int (7 : Int32))), h) := by
  refine (q_cut_eq _ _ [0, 87, 105] 200 _ _ _ _).trans ?_
  rfl
set_option maxRecDepth 20000 in
theorem k_X5_whichSeen_105 (call : Nat → List Value → qH → qR) (l0 : Value) (s0 : Int32) (h : qH) : q_run qm_X5_whichSeen call 105 [l0] [.int s0] h =
  some (.inl (some (.int s0)), h) := by
  refine (q_cut_eq _ _ [0, 87, 105] 200 _ _ _ _).trans ?_
  rfl
set_option maxRecDepth 20000 in
theorem k_X5_emit_0 (call : Nat → List Value → qH → qR) (l0 : Nat) (l1 : Int32) (h : qH) : q_run qm_X5_emit call 0 [.ref l0, .int l1] [] h =
  q_gI h (.ref l0) 5 5 fun x1 =>
  if q_cmp .lt x1 (0 : Int32) = true then
    q_run qm_X5_emit call 39 [.ref l0, .int l1] [] h
  else
    q_gI h (.ref l0) 5 5 fun x2 =>
    q_gR h (.ref l0) 5 1 fun r3 =>
    q_len h (.ref r3) fun x4 =>
    if q_cmp .ge x2 x4 = true then
      q_run qm_X5_emit call 39 [.ref l0, .int l1] [] h
    else
      q_gR h (.ref l0) 5 1 fun r5 =>
      q_gI h (.ref l0) 5 5 fun x6 =>
      q_ast h (.ref r5) 0 x6 l1 fun h7 =>
      q_gI h7 (.ref l0) 5 5 fun x8 =>
      q_pV h7 (.ref l0) 5 5 (.int (x8 + (1 : Int32))) fun h9 =>
      q_run qm_X5_emit call 39 [.ref l0, .int l1] [] h9 := by
  refine (q_cut_eq _ _ [0, 39] 200 _ _ _ _).trans ?_
  rfl
set_option maxRecDepth 20000 in
theorem k_X5_emit_39 (call : Nat → List Value → qH → qR) (l0 : Value) (l1 : Value) (h : qH) : q_run qm_X5_emit call 39 [l0, l1] [] h =
  q_boo true (1 : Int32) fun z => some (.inl (some (.int z)), h) := by
  refine (q_cut_eq _ _ [0, 39] 200 _ _ _ _).trans ?_
  rfl
set_option maxRecDepth 20000 in
theorem k_X5_flightBy_0 (call : Nat → List Value → qH → qR) (l0 : Nat) (l1 : Int32) (h : qH) : q_run qm_X5_flightBy call 0 [.ref l0, .int l1, q_junk, q_junk, q_junk] [] h =
  q_gR h (.ref l0) 5 3 fun r1 =>
  q_ast h (.ref r1) 0 (0 : Int32) l1 fun h2 =>
  q_run qm_X5_flightBy call 11 [.ref l0, .int l1, .int (0 : Int32), .int (0 : Int32), q_junk] [] h2 := by
  refine (q_cut_eq _ _ [0, 11, 111, 115] 200 _ _ _ _).trans ?_
  rfl
set_option maxRecDepth 20000 in
theorem k_X5_flightBy_11 (call : Nat → List Value → qH → qR) (l0 : Nat) (l1 : Value) (l2 : Int32) (l3 : Int32) (l4 : Value) (h : qH) : q_run qm_X5_flightBy call 11 [.ref l0, l1, .int l2, .int l3, l4] [] h =
  q_gI h (.ref l0) 5 4 fun x1 =>
  if q_cmp .ge l3 x1 = true then
    q_gR h (.ref l0) 5 2 fun r2 =>
    q_ald h (.ref r2) 0 (0 : Int32) fun x3 =>
    some (.inl (some (.int (if (0 : Int32) < (if (60 : Int32) < x3 then (60 : Int32) else x3) then (if (60 : Int32) < x3 then (60 : Int32) else x3) else (0 : Int32)))), h)
  else
    q_gR h (.ref l0) 5 0 fun r4 =>
    q_ald h (.ref r4) 0 l3 fun x5 =>
    if q_cmp .lt x5 (2000 : Int32) = true then
      q_gR h (.ref l0) 5 2 fun r6 =>
      q_len h (.ref r6) fun x7 =>
      if q_cmp .ge l2 x7 = true then
        q_run qm_X5_flightBy call 115 [.ref l0, l1, .int l2, .int l3, .int x5] [] h
      else
        q_gR h (.ref l0) 5 2 fun r8 =>
        if q_cmp .ge x5 (1000 : Int32) = true then
          q_gR h (.ref l0) 5 3 fun r9 =>
          q_ald h (.ref r9) 0 (x5 - (1000 : Int32)) fun x10 =>
          q_run qm_X5_flightBy call 111 [.ref l0, l1, .int l2, .int l3, .int x5] [.int x10, .int l2, .ref r8] h
        else
          q_run qm_X5_flightBy call 111 [.ref l0, l1, .int l2, .int l3, .int x5] [.int x5, .int l2, .ref r8] h
    else
      if q_cmp .lt l2 (2 : Int32) = true then
        q_run qm_X5_flightBy call 115 [.ref l0, l1, .int l2, .int l3, .int x5] [] h
      else
        q_gR h (.ref l0) 5 2 fun r11 =>
        q_gR h (.ref l0) 5 2 fun r12 =>
        q_ald h (.ref r12) 0 ((l2 + (-1 : Int32)) - (1 : Int32)) fun x13 =>
        q_gR h (.ref l0) 5 2 fun r14 =>
        q_ald h (.ref r14) 0 (l2 + (-1 : Int32)) fun x15 =>
        q_rI (call 73 [.int x5, .int x13, .int x15] h) q_t0 fun x17 h16 =>
        q_ast h16 (.ref r11) 0 ((l2 + (-1 : Int32)) - (1 : Int32)) x17 fun h18 =>
        q_run qm_X5_flightBy call 115 [.ref l0, l1, .int (l2 + (-1 : Int32)), .int l3, .int x5] [] h18 := by
  refine (q_cut_eq _ _ [0, 11, 111, 115] 200 _ _ _ _).trans ?_
  rfl
set_option maxRecDepth 20000 in
theorem k_X5_flightBy_111 (call : Nat → List Value → qH → qR) (l0 : Nat) (l1 : Value) (l2 : Int32) (l3 : Int32) (l4 : Value) (s0 : Nat) (s1 : Int32) (s2 : Int32) (h : qH) : q_run qm_X5_flightBy call 111 [.ref l0, l1, .int l2, .int l3, l4] [.int s2, .int s1, .ref s0] h =
  q_ast h (.ref s0) 0 s1 s2 fun h1 =>
  q_run qm_X5_flightBy call 115 [.ref l0, l1, .int (l2 + (1 : Int32)), .int l3, l4] [] h1 := by
  refine (q_cut_eq _ _ [0, 11, 111, 115] 200 _ _ _ _).trans ?_
  rfl
set_option maxRecDepth 20000 in
theorem k_X5_flightBy_115 (call : Nat → List Value → qH → qR) (l0 : Nat) (l1 : Value) (l2 : Int32) (l3 : Int32) (l4 : Value) (h : qH) : q_run qm_X5_flightBy call 115 [.ref l0, l1, .int l2, .int l3, l4] [] h =
  q_run qm_X5_flightBy call 11 [.ref l0, l1, .int l2, .int (l3 + (1 : Int32)), l4] [] h := by
  refine (q_cut_eq _ _ [0, 11, 111, 115] 200 _ _ _ _).trans ?_
  rfl
set_option maxRecDepth 20000 in
theorem k_X5_worked_0 (call : Nat → List Value → qH → qR) (l0 : Int32) (l1 : Int32) (l2 : Int32) (h : qH) : q_run qm_X5_worked call 0 [.int l0, .int l1, .int l2] [] h =
  q_run qm_X5_worked call 1 [.int l0, .int l1, .int l2] [.int l0] h := by
  refine (q_cut_eq _ _ [0, 1, 59, 70, 81] 200 _ _ _ _).trans ?_
  rfl
set_option maxRecDepth 20000 in
theorem k_X5_worked_1_c2000 (call : Nat → List Value → qH → qR) (l0 : Value) (l1 : Int32) (l2 : Int32) (h : qH) : q_run qm_X5_worked call 1 [l0, .int l1, .int l2] [.int (2000 : Int32)] h =
  some (.inl (some (.int (l1 + l2))), h) := by
  refine (q_cut_eq _ _ [0, 1, 59, 70, 81] 200 _ _ _ _).trans ?_
  rfl
set_option maxRecDepth 20000 in
theorem k_X5_worked_1_c2001 (call : Nat → List Value → qH → qR) (l0 : Value) (l1 : Int32) (l2 : Int32) (h : qH) : q_run qm_X5_worked call 1 [l0, .int l1, .int l2] [.int (2001 : Int32)] h =
  some (.inl (some (.int (l1 - l2))), h) := by
  refine (q_cut_eq _ _ [0, 1, 59, 70, 81] 200 _ _ _ _).trans ?_
  rfl
set_option maxRecDepth 20000 in
theorem k_X5_worked_1_c2002 (call : Nat → List Value → qH → qR) (l0 : Value) (l1 : Int32) (l2 : Int32) (h : qH) : q_run qm_X5_worked call 1 [l0, .int l1, .int l2] [.int (2002 : Int32)] h =
  some (.inl (some (.int (l1 * l2))), h) := by
  refine (q_cut_eq _ _ [0, 1, 59, 70, 81] 200 _ _ _ _).trans ?_
  rfl
set_option maxRecDepth 20000 in
theorem k_X5_worked_1_c2003 (call : Nat → List Value → qH → qR) (l0 : Value) (l1 : Int32) (l2 : Int32) (h : qH) : q_run qm_X5_worked call 1 [l0, .int l1, .int l2] [.int (2003 : Int32)] h =
  if q_cmp .ne l2 (0 : Int32) = true then
    if l2 = 0 then none else
    q_run qm_X5_worked call 59 [l0, .int l1, .int l2] [.int (l1 / l2)] h
  else
    q_run qm_X5_worked call 59 [l0, .int l1, .int l2] [.int (0 : Int32)] h := by
  refine (q_cut_eq _ _ [0, 1, 59, 70, 81] 200 _ _ _ _).trans ?_
  rfl
set_option maxRecDepth 20000 in
theorem k_X5_worked_1_c2004 (call : Nat → List Value → qH → qR) (l0 : Value) (l1 : Int32) (l2 : Int32) (h : qH) : q_run qm_X5_worked call 1 [l0, .int l1, .int l2] [.int (2004 : Int32)] h =
  if q_cmp .gt l1 l2 = true then
    q_run qm_X5_worked call 70 [l0, .int l1, .int l2] [.int l2] h
  else
    q_run qm_X5_worked call 70 [l0, .int l1, .int l2] [.int l1] h := by
  refine (q_cut_eq _ _ [0, 1, 59, 70, 81] 200 _ _ _ _).trans ?_
  rfl
set_option maxRecDepth 20000 in
theorem k_X5_worked_1_d (call : Nat → List Value → qH → qR) (l0 : Value) (l1 : Int32) (l2 : Int32) (s0 : Int32) (h : qH) (hx : s0.toInt < 2000 ∨ 2004 < s0.toInt) : q_run qm_X5_worked call 1 [l0, .int l1, .int l2] [.int s0] h =
  if q_cmp .lt l1 l2 = true then
    q_run qm_X5_worked call 81 [l0, .int l1, .int l2] [.int l2] h
  else
    q_run qm_X5_worked call 81 [l0, .int l1, .int l2] [.int l1] h := by
  refine (q_cut_eq _ _ [0, 1, 59, 70, 81] 200 _ _ _ _).trans ?_
  exact if_pos hx
set_option maxRecDepth 20000 in
theorem k_X5_worked_59 (call : Nat → List Value → qH → qR) (l0 : Value) (l1 : Value) (l2 : Value) (s0 : Int32) (h : qH) : q_run qm_X5_worked call 59 [l0, l1, l2] [.int s0] h =
  some (.inl (some (.int s0)), h) := by
  refine (q_cut_eq _ _ [0, 1, 59, 70, 81] 200 _ _ _ _).trans ?_
  rfl
set_option maxRecDepth 20000 in
theorem k_X5_worked_70 (call : Nat → List Value → qH → qR) (l0 : Value) (l1 : Value) (l2 : Value) (s0 : Int32) (h : qH) : q_run qm_X5_worked call 70 [l0, l1, l2] [.int s0] h =
  some (.inl (some (.int s0)), h) := by
  refine (q_cut_eq _ _ [0, 1, 59, 70, 81] 200 _ _ _ _).trans ?_
  rfl
set_option maxRecDepth 20000 in
theorem k_X5_worked_81 (call : Nat → List Value → qH → qR) (l0 : Value) (l1 : Value) (l2 : Value) (s0 : Int32) (h : qH) : q_run qm_X5_worked call 81 [l0, l1, l2] [.int s0] h =
  some (.inl (some (.int s0)), h) := by
  refine (q_cut_eq _ _ [0, 1, 59, 70, 81] 200 _ _ _ _).trans ?_
  rfl
set_option maxRecDepth 20000 in
theorem k_X6_init_0 (call : Nat → List Value → qH → qR) (l0 : Nat) (h : qH) : q_run qm_X6_init call 0 [.ref l0] [] h =
  q_nar h 0 (5 : Int32) fun r1 h2 =>
  q_pV h2 (.ref l0) 6 5 (.ref r1) fun h3 =>
  q_nar h3 0 (10 : Int32) fun r4 h5 =>
  q_pV h5 (.ref l0) 6 6 (.ref r4) fun h6 =>
  q_nar h6 0 (10 : Int32) fun r7 h8 =>
  q_pV h8 (.ref l0) 6 7 (.ref r7) fun h9 =>
  q_run qm_X6_init call 27 [.ref l0] [] h9 := by
  refine (q_cut_eq _ _ [0, 27] 200 _ _ _ _).trans ?_
  rfl
set_option maxRecDepth 20000 in
theorem k_X6_init_27 (call : Nat → List Value → qH → qR) (l0 : Nat) (h : qH) : q_run qm_X6_init call 27 [.ref l0] [] h =
  q_nar h 0 (10 : Int32) fun r1 h2 =>
  q_pV h2 (.ref l0) 6 8 (.ref r1) fun h3 =>
  q_nar h3 0 (4 : Int32) fun r4 h5 =>
  q_pV h5 (.ref l0) 6 9 (.ref r4) fun h6 =>
  q_nar h6 0 (4 : Int32) fun r7 h8 =>
  q_pV h8 (.ref l0) 6 10 (.ref r7) fun h9 =>
  q_rcv h9 (.ref l0) 6 (q_rV (call 75 [.ref l0] h9) q_t0 fun h10 =>
  some (.inl none, h10)) := by
  refine (q_cut_eq _ _ [0, 27] 200 _ _ _ _).trans ?_
  rfl
set_option maxRecDepth 20000 in
theorem k_X6_clear_0 (call : Nat → List Value → qH → qR) (l0 : Nat) (h : qH) : q_run qm_X6_clear call 0 [.ref l0] [] h =
  q_pV h (.ref l0) 6 0 (.int (0 : Int32)) fun h1 =>
  q_pV h1 (.ref l0) 6 1 (.int (0 : Int32)) fun h2 =>
  q_pV h2 (.ref l0) 6 2 (.int (0 : Int32)) fun h3 =>
  q_pV h3 (.ref l0) 6 3 (.int (12 : Int32)) fun h4 =>
  q_pV h4 (.ref l0) 6 4 (.int (3 : Int32)) fun h5 =>
  some (.inl none, h5) := by
  refine (q_cut_eq _ _ [0] 200 _ _ _ _).trans ?_
  rfl
set_option maxRecDepth 20000 in
theorem k_X6_copyFrom_0 (call : Nat → List Value → qH → qR) (l0 : Nat) (l1 : Nat) (h : qH) : q_run qm_X6_copyFrom call 0 [.ref l0, .ref l1] [] h =
  q_gI h (.ref l1) 6 0 fun x1 =>
  q_pV h (.ref l0) 6 0 (.int x1) fun h2 =>
  q_gI h2 (.ref l1) 6 1 fun x3 =>
  q_pV h2 (.ref l0) 6 1 (.int x3) fun h4 =>
  q_gI h4 (.ref l1) 6 2 fun x5 =>
  q_pV h4 (.ref l0) 6 2 (.int x5) fun h6 =>
  q_gI h6 (.ref l1) 6 3 fun x7 =>
  q_pV h6 (.ref l0) 6 3 (.int x7) fun h8 =>
  q_gI h8 (.ref l1) 6 4 fun x9 =>
  q_pV h8 (.ref l0) 6 4 (.int x9) fun h10 =>
  q_gR h10 (.ref l1) 6 5 fun r11 =>
  q_gR h10 (.ref l0) 6 5 fun r12 =>
  q_cpy h10 (.ref r11) (0 : Int32) (.ref r12) (0 : Int32) (5 : Int32) fun h13 =>
  q_gR h13 (.ref l1) 6 6 fun r14 =>
  q_gR h13 (.ref l0) 6 6 fun r15 =>
  q_cpy h13 (.ref r14) (0 : Int32) (.ref r15) (0 : Int32) (10 : Int32) fun h16 =>
  q_gR h16 (.ref l1) 6 7 fun r17 =>
  q_gR h16 (.ref l0) 6 7 fun r18 =>
  q_cpy h16 (.ref r17) (0 : Int32) (.ref r18) (0 : Int32) (10 : Int32) fun h19 =>
  q_gR h19 (.ref l1) 6 8 fun r20 =>
  q_gR h19 (.ref l0) 6 8 fun r21 =>
  q_cpy h19 (.ref r20) (0 : Int32) (.ref r21) (0 : Int32) (10 : Int32) fun h22 =>
  q_run qm_X6_copyFrom call 99 [.ref l0, .ref l1] [] h22 := by
  refine (q_cut_eq _ _ [0, 99] 200 _ _ _ _).trans ?_
  rfl
set_option maxRecDepth 20000 in
theorem k_X6_copyFrom_99 (call : Nat → List Value → qH → qR) (l0 : Nat) (l1 : Nat) (h : qH) : q_run qm_X6_copyFrom call 99 [.ref l0, .ref l1] [] h =
  q_gR h (.ref l1) 6 9 fun r1 =>
  q_gR h (.ref l0) 6 9 fun r2 =>
  q_cpy h (.ref r1) (0 : Int32) (.ref r2) (0 : Int32) (4 : Int32) fun h3 =>
  q_gR h3 (.ref l1) 6 10 fun r4 =>
  q_gR h3 (.ref l0) 6 10 fun r5 =>
  q_cpy h3 (.ref r4) (0 : Int32) (.ref r5) (0 : Int32) (4 : Int32) fun h6 =>
  some (.inl none, h6) := by
  refine (q_cut_eq _ _ [0, 99] 200 _ _ _ _).trans ?_
  rfl
set_option maxRecDepth 20000 in
theorem k_X6_winksOf_0 (call : Nat → List Value → qH → qR) (l0 : Nat) (l1 : Int32) (h : qH) : q_run qm_X6_winksOf call 0 [.ref l0, .int l1, q_junk, q_junk] [] h =
  q_run qm_X6_winksOf call 4 [.ref l0, .int l1, .int (0 : Int32), .int (0 : Int32)] [] h := by
  refine (q_cut_eq _ _ [0, 4, 28] 200 _ _ _ _).trans ?_
  rfl
set_option maxRecDepth 20000 in
theorem k_X6_winksOf_4 (call : Nat → List Value → qH → qR) (l0 : Nat) (l1 : Int32) (l2 : Int32) (l3 : Int32) (h : qH) : q_run qm_X6_winksOf call 4 [.ref l0, .int l1, .int l2, .int l3] [] h =
  q_gI h (.ref l0) 6 1 fun x1 =>
  if q_cmp .ge l3 x1 = true then
    some (.inl (some (.int l2)), h)
  else
    q_gR h (.ref l0) 6 6 fun r2 =>
    q_ald h (.ref r2) 0 l3 fun x3 =>
    if q_cmp .ne x3 l1 = true then
      q_run qm_X6_winksOf call 28 [.ref l0, .int l1, .int l2, .int l3] [] h
    else
      q_run qm_X6_winksOf call 28 [.ref l0, .int l1, .int (l2 ||| ((1 : Int32) <<< (l3 &&& 31))), .int l3] [] h := by
  refine (q_cut_eq _ _ [0, 4, 28] 200 _ _ _ _).trans ?_
  rfl
set_option maxRecDepth 20000 in
theorem k_X6_winksOf_28 (call : Nat → List Value → qH → qR) (l0 : Nat) (l1 : Int32) (l2 : Int32) (l3 : Int32) (h : qH) : q_run qm_X6_winksOf call 28 [.ref l0, .int l1, .int l2, .int l3] [] h =
  q_run qm_X6_winksOf call 4 [.ref l0, .int l1, .int l2, .int (l3 + (1 : Int32))] [] h := by
  refine (q_cut_eq _ _ [0, 4, 28] 200 _ _ _ _).trans ?_
  rfl
set_option maxRecDepth 20000 in
theorem k_X6_cupAt_0 (call : Nat → List Value → qH → qR) (l0 : Nat) (l1 : Int32) (h : qH) : q_run qm_X6_cupAt call 0 [.ref l0, .int l1, q_junk] [] h =
  q_run qm_X6_cupAt call 2 [.ref l0, .int l1, .int (0 : Int32)] [] h := by
  refine (q_cut_eq _ _ [0, 2] 200 _ _ _ _).trans ?_
  rfl
set_option maxRecDepth 20000 in
theorem k_X6_cupAt_2 (call : Nat → List Value → qH → qR) (l0 : Nat) (l1 : Int32) (l2 : Int32) (h : qH) : q_run qm_X6_cupAt call 2 [.ref l0, .int l1, .int l2] [] h =
  q_gI h (.ref l0) 6 2 fun x1 =>
  if q_cmp .ge l2 x1 = true then
    some (.inl (some (.int (-1 : Int32))), h)
  else
    q_gR h (.ref l0) 6 9 fun r2 =>
    q_ald h (.ref r2) 0 l2 fun x3 =>
    if q_cmp .ne x3 l1 = true then
      q_run qm_X6_cupAt call 2 [.ref l0, .int l1, .int (l2 + (1 : Int32))] [] h
    else
      some (.inl (some (.int l2)), h) := by
  refine (q_cut_eq _ _ [0, 2] 200 _ _ _ _).trans ?_
  rfl
set_option maxRecDepth 20000 in
theorem k_X6_readFrom_0 (call : Nat → List Value → qH → qR) (l0 : Nat) (l1 : Nat) (h : qH) : q_run qm_X6_readFrom call 0 [.ref l0, .ref l1, q_junk] [] h =
  q_rcv h (.ref l0) 6 (q_rV (call 75 [.ref l0] h) q_t0 fun h1 =>
  q_run qm_X6_readFrom call 6 [.ref l0, .ref l1, .int (0 : Int32)] [] h1) := by
  refine (q_cut_eq _ _ [0, 6, 33, 48, 56, 75, 80] 200 _ _ _ _).trans ?_
  rfl
set_option maxRecDepth 20000 in
theorem k_X6_readFrom_6 (call : Nat → List Value → qH → qR) (l0 : Nat) (l1 : Nat) (l2 : Int32) (h : qH) : q_run qm_X6_readFrom call 6 [.ref l0, .ref l1, .int l2] [] h =
  if q_cmp .gt l2 (60 : Int32) = true then
    q_run qm_X6_readFrom call 56 [.ref l0, .ref l1, .int l2] [] h
  else
    q_rcv h (.ref l1) 9 (q_rI (call 105 [.ref l1] h) q_t0 fun x2 h1 =>
    if q_cmp .eq x2 (-1 : Int32) = true then
      q_run qm_X6_readFrom call 56 [.ref l0, .ref l1, .int l2] [] h1
    else
      if q_cmp .ge l2 (60 : Int32) = true then
        q_run qm_X6_readFrom call 33 [.ref l0, .ref l1, .int l2] [.int (0 : Int32), .ref l1, .ref l0] h1
      else
        q_run qm_X6_readFrom call 33 [.ref l0, .ref l1, .int l2] [.int (1 : Int32), .ref l1, .ref l0] h1) := by
  refine (q_cut_eq _ _ [0, 6, 33, 48, 56, 75, 80] 200 _ _ _ _).trans ?_
  rfl
set_option maxRecDepth 20000 in
theorem k_X6_readFrom_33 (call : Nat → List Value → qH → qR) (l0 : Nat) (l1 : Nat) (l2 : Int32) (s0 : Nat) (s1 : Nat) (s2 : Int32) (h : qH) : q_run qm_X6_readFrom call 33 [.ref l0, .ref l1, .int l2] [.int s2, .ref s1, .ref s0] h =
  q_rcv h (.ref s0) 6 (q_rI (call 80 [.ref s0, .ref s1, .int s2] h) q_t0 fun x2 h1 =>
  if q_cmp .eq x2 (0 : Int32) = true then
    q_run qm_X6_readFrom call 48 [.ref l0, .ref l1, .int l2] [] h1
  else
    q_rcv h1 (.ref l1) 9 (q_rI (call 107 [.ref l1, .int (59 : Int32)] h1) q_t0 fun x4 h3 =>
    if q_cmp .ne x4 (0 : Int32) = true then
      q_run qm_X6_readFrom call 6 [.ref l0, .ref l1, .int (l2 + (1 : Int32))] [] h3
    else
      q_run qm_X6_readFrom call 48 [.ref l0, .ref l1, .int l2] [] h3)) := by
  refine (q_cut_eq _ _ [0, 6, 33, 48, 56, 75, 80] 200 _ _ _ _).trans ?_
  rfl
set_option maxRecDepth 20000 in
theorem k_X6_readFrom_48 (call : Nat → List Value → qH → qR) (l0 : Value) (l1 : Value) (l2 : Value) (h : qH) : q_run qm_X6_readFrom call 48 [l0, l1, l2] [] h =
  q_boo true (0 : Int32) fun z => some (.inl (some (.int z)), h) := by
  refine (q_cut_eq _ _ [0, 6, 33, 48, 56, 75, 80] 200 _ _ _ _).trans ?_
  rfl
set_option maxRecDepth 20000 in
theorem k_X6_readFrom_56 (call : Nat → List Value → qH → qR) (l0 : Nat) (l1 : Nat) (l2 : Value) (h : qH) : q_run qm_X6_readFrom call 56 [.ref l0, .ref l1, l2] [] h =
  q_rcv h (.ref l0) 6 (q_rI (call 86 [.ref l0] h) q_t0 fun x2 h1 =>
  if q_cmp .ne x2 (0 : Int32) = true then
    q_run qm_X6_readFrom call 75 [.ref l0, .ref l1, l2] [] h1
  else
    q_gI h1 (.ref l1) 9 2 fun x3 =>
    q_rcv h1 (.ref l1) 9 (q_rI (call 104 [.ref l1, .int (4 : Int32), .int x3] h1) q_t0 fun x5 h4 =>
    if q_cmp .eq x5 (0 : Int32) = true then
      q_run qm_X6_readFrom call 80 [.ref l0, .ref l1, l2] [.int (0 : Int32)] h4
    else
      q_run qm_X6_readFrom call 75 [.ref l0, .ref l1, l2] [] h4)) := by
  refine (q_cut_eq _ _ [0, 6, 33, 48, 56, 75, 80] 200 _ _ _ _).trans ?_
  rfl
set_option maxRecDepth 20000 in
theorem k_X6_readFrom_75 (call : Nat → List Value → qH → qR) (l0 : Value) (l1 : Value) (l2 : Value) (h : qH) : q_run qm_X6_readFrom call 75 [l0, l1, l2] [] h =
  q_run qm_X6_readFrom call 80 [l0, l1, l2] [.int (1 : Int32)] h := by
  refine (q_cut_eq _ _ [0, 6, 33, 48, 56, 75, 80] 200 _ _ _ _).trans ?_
  rfl
set_option maxRecDepth 20000 in
theorem k_X6_readFrom_80 (call : Nat → List Value → qH → qR) (l0 : Value) (l1 : Value) (l2 : Value) (s0 : Int32) (h : qH) : q_run qm_X6_readFrom call 80 [l0, l1, l2] [.int s0] h =
  q_boo true s0 fun z => some (.inl (some (.int z)), h) := by
  refine (q_cut_eq _ _ [0, 6, 33, 48, 56, 75, 80] 200 _ _ _ _).trans ?_
  rfl
set_option maxRecDepth 20000 in
theorem k_X6_readClause_0 (call : Nat → List Value → qH → qR) (l0 : Nat) (l1 : Nat) (l2 : Int32) (h : qH) : q_run qm_X6_readClause call 0 [.ref l0, .ref l1, .int l2] [] h =
  q_rcv h (.ref l1) 9 (q_rI (call 109 [.ref l1] h) q_t0 fun x2 h1 =>
  if q_cmp .ne x2 (0 : Int32) = true then
    q_rcv h1 (.ref l1) 9 (q_rI (call 110 [.ref l1, .float 0] h1) q_t0 fun x4 h3 =>
    if q_cmp .eq x4 (0 : Int32) = true then
      q_rcv h3 (.ref l1) 9 (q_rI (call 110 [.ref l1, .float 1] h3) q_t0 fun x6 h5 =>
      if q_cmp .eq x6 (0 : Int32) = true then
        q_rcv h5 (.ref l1) 9 (q_rI (call 110 [.ref l1, .float 2] h5) q_t0 fun x8 h7 =>
        if q_cmp .eq x8 (0 : Int32) = true then
          q_rcv h7 (.ref l1) 9 (q_rI (call 110 [.ref l1, .float 3] h7) q_t0 fun x10 h9 =>
          if q_cmp .eq x10 (0 : Int32) = true then
            q_rcv h9 (.ref l1) 9 (q_rI (call 110 [.ref l1, .float 4] h9) q_t0 fun x12 h11 =>
            if q_cmp .eq x12 (0 : Int32) = true then
              q_gI h11 (.ref l1) 9 4 fun x13 =>
              q_rcv h11 (.ref l1) 9 (q_rI (call 104 [.ref l1, .int (1 : Int32), .int x13] h11) q_t0 fun x15 h14 =>
              q_boo true x15 fun z => some (.inl (some (.int z)), h14))
            else
              q_rcv h11 (.ref l1) 9 (q_rI (call 111 [.ref l1, .int l2] h11) q_t0 fun x17 h16 =>
              if q_cmp .eq x17 (0 : Int32) = true then
                q_run qm_X6_readClause call 211 [.ref l0, .ref l1, .int l2] [] h16
              else
                q_rcv h16 (.ref l0) 6 (q_rI (call 83 [.ref l0, .ref l1] h16) q_t0 fun x19 h18 =>
                if q_cmp .eq x19 (0 : Int32) = true then
                  q_run qm_X6_readClause call 211 [.ref l0, .ref l1, .int l2] [] h18
                else
                  q_run qm_X6_readClause call 212 [.ref l0, .ref l1, .int l2] [.int (1 : Int32)] h18)))
          else
            q_rcv h9 (.ref l1) 9 (q_rI (call 111 [.ref l1, .int l2] h9) q_t0 fun x21 h20 =>
            if q_cmp .eq x21 (0 : Int32) = true then
              q_run qm_X6_readClause call 180 [.ref l0, .ref l1, .int l2] [] h20
            else
              q_rcv h20 (.ref l0) 6 (q_rI (call 82 [.ref l0, .ref l1] h20) q_t0 fun x23 h22 =>
              if q_cmp .eq x23 (0 : Int32) = true then
                q_run qm_X6_readClause call 180 [.ref l0, .ref l1, .int l2] [] h22
              else
                q_run qm_X6_readClause call 181 [.ref l0, .ref l1, .int l2] [.int (1 : Int32)] h22)))
        else
          if q_cmp .eq l2 (0 : Int32) = true then
            q_run qm_X6_readClause call 130 [.ref l0, .ref l1, .int l2] [.ref l1] h7
          else
            q_gI h7 (.ref l0) 6 2 fun x24 =>
            if q_cmp .ge x24 (4 : Int32) = true then
              q_run qm_X6_readClause call 130 [.ref l0, .ref l1, .int l2] [.ref l1] h7
            else
              q_run qm_X6_readClause call 131 [.ref l0, .ref l1, .int l2] [.int (1 : Int32), .ref l1] h7)
      else
        if q_cmp .eq l2 (0 : Int32) = true then
          q_run qm_X6_readClause call 83 [.ref l0, .ref l1, .int l2] [.ref l1] h5
        else
          q_gI h5 (.ref l0) 6 1 fun x25 =>
          if q_cmp .ge x25 (10 : Int32) = true then
            q_run qm_X6_readClause call 83 [.ref l0, .ref l1, .int l2] [.ref l1] h5
          else
            q_run qm_X6_readClause call 84 [.ref l0, .ref l1, .int l2] [.int (1 : Int32), .ref l1] h5)
    else
      if q_cmp .eq l2 (0 : Int32) = true then
        q_run qm_X6_readClause call 35 [.ref l0, .ref l1, .int l2] [.ref l1] h3
      else
        q_gI h3 (.ref l0) 6 0 fun x26 =>
        if q_cmp .ge x26 (5 : Int32) = true then
          q_run qm_X6_readClause call 35 [.ref l0, .ref l1, .int l2] [.ref l1] h3
        else
          q_run qm_X6_readClause call 36 [.ref l0, .ref l1, .int l2] [.int (1 : Int32), .ref l1] h3)
  else
    q_boo true (0 : Int32) fun z => some (.inl (some (.int z)), h1)) := by
  refine (q_cut_eq _ _ [0, 35, 36, 54, 55, 83, 84, 102, 103, 130, 131, 149, 150, 180, 181, 211, 212] 200 _ _ _ _).trans ?_
  rfl
set_option maxRecDepth 20000 in
theorem k_X6_readClause_35 (call : Nat → List Value → qH → qR) (l0 : Nat) (l1 : Nat) (l2 : Value) (s0 : Nat) (h : qH) : q_run qm_X6_readClause call 35 [.ref l0, .ref l1, l2] [.ref s0] h =
  q_run qm_X6_readClause call 36 [.ref l0, .ref l1, l2] [.int (0 : Int32), .ref s0] h := by
  refine (q_cut_eq _ _ [0, 35, 36, 54, 55, 83, 84, 102, 103, 130, 131, 149, 150, 180, 181, 211, 212] 200 _ _ _ _).trans ?_
  rfl
set_option maxRecDepth 20000 in
theorem k_X6_readClause_36 (call : Nat → List Value → qH → qR) (l0 : Nat) (l1 : Nat) (l2 : Value) (s0 : Nat) (s1 : Int32) (h : qH) : q_run qm_X6_readClause call 36 [.ref l0, .ref l1, l2] [.int s1, .ref s0] h =
  q_rcv h (.ref s0) 9 (q_rI (call 111 [.ref s0, .int s1] h) q_t0 fun x2 h1 =>
  if q_cmp .eq x2 (0 : Int32) = true then
    q_run qm_X6_readClause call 54 [.ref l0, .ref l1, l2] [] h1
  else
    q_rcv h1 (.ref l0) 6 (q_rI (call 81 [.ref l0, .ref l1] h1) q_t0 fun x4 h3 =>
    if q_cmp .eq x4 (0 : Int32) = true then
      q_run qm_X6_readClause call 54 [.ref l0, .ref l1, l2] [] h3
    else
      q_run qm_X6_readClause call 55 [.ref l0, .ref l1, l2] [.int (1 : Int32)] h3)) := by
  refine (q_cut_eq _ _ [0, 35, 36, 54, 55, 83, 84, 102, 103, 130, 131, 149, 150, 180, 181, 211, 212] 200 _ _ _ _).trans ?_
  rfl
set_option maxRecDepth 20000 in
theorem k_X6_readClause_54 (call : Nat → List Value → qH → qR) (l0 : Value) (l1 : Value) (l2 : Value) (h : qH) : q_run qm_X6_readClause call 54 [l0, l1, l2] [] h =
  q_run qm_X6_readClause call 55 [l0, l1, l2] [.int (0 : Int32)] h := by
  refine (q_cut_eq _ _ [0, 35, 36, 54, 55, 83, 84, 102, 103, 130, 131, 149, 150, 180, 181, 211, 212] 200 _ _ _ _).trans ?_
  rfl
set_option maxRecDepth 20000 in
theorem k_X6_readClause_55 (call : Nat → List Value → qH → qR) (l0 : Value) (l1 : Value) (l2 : Value) (s0 : Int32) (h : qH) : q_run qm_X6_readClause call 55 [l0, l1, l2] [.int s0] h =
  q_boo true s0 fun z => some (.inl (some (.int z)), h) := by
  refine (q_cut_eq _ _ [0, 35, 36, 54, 55, 83, 84, 102, 103, 130, 131, 149, 150, 180, 181, 211, 212] 200 _ _ _ _).trans ?_
  rfl
set_option maxRecDepth 20000 in
theorem k_X6_readClause_83 (call : Nat → List Value → qH → qR) (l0 : Nat) (l1 : Nat) (l2 : Value) (s0 : Nat) (h : qH) : q_run qm_X6_readClause call 83 [.ref l0, .ref l1, l2] [.ref s0] h =
  q_run qm_X6_readClause call 84 [.ref l0, .ref l1, l2] [.int (0 : Int32), .ref s0] h := by
  refine (q_cut_eq _ _ [0, 35, 36, 54, 55, 83, 84, 102, 103, 130, 131, 149, 150, 180, 181, 211, 212] 200 _ _ _ _).trans ?_
  rfl
set_option maxRecDepth 20000 in
theorem k_X6_readClause_84 (call : Nat → List Value → qH → qR) (l0 : Nat) (l1 : Nat) (l2 : Value) (s0 : Nat) (s1 : Int32) (h : qH) : q_run qm_X6_readClause call 84 [.ref l0, .ref l1, l2] [.int s1, .ref s0] h =
  q_rcv h (.ref s0) 9 (q_rI (call 111 [.ref s0, .int s1] h) q_t0 fun x2 h1 =>
  if q_cmp .eq x2 (0 : Int32) = true then
    q_run qm_X6_readClause call 102 [.ref l0, .ref l1, l2] [] h1
  else
    q_rcv h1 (.ref l0) 6 (q_rI (call 84 [.ref l0, .ref l1] h1) q_t0 fun x4 h3 =>
    if q_cmp .eq x4 (0 : Int32) = true then
      q_run qm_X6_readClause call 102 [.ref l0, .ref l1, l2] [] h3
    else
      q_run qm_X6_readClause call 103 [.ref l0, .ref l1, l2] [.int (1 : Int32)] h3)) := by
  refine (q_cut_eq _ _ [0, 35, 36, 54, 55, 83, 84, 102, 103, 130, 131, 149, 150, 180, 181, 211, 212] 200 _ _ _ _).trans ?_
  rfl
set_option maxRecDepth 20000 in
theorem k_X6_readClause_102 (call : Nat → List Value → qH → qR) (l0 : Value) (l1 : Value) (l2 : Value) (h : qH) : q_run qm_X6_readClause call 102 [l0, l1, l2] [] h =
  q_run qm_X6_readClause call 103 [l0, l1, l2] [.int (0 : Int32)] h := by
  refine (q_cut_eq _ _ [0, 35, 36, 54, 55, 83, 84, 102, 103, 130, 131, 149, 150, 180, 181, 211, 212] 200 _ _ _ _).trans ?_
  rfl
set_option maxRecDepth 20000 in
theorem k_X6_readClause_103 (call : Nat → List Value → qH → qR) (l0 : Value) (l1 : Value) (l2 : Value) (s0 : Int32) (h : qH) : q_run qm_X6_readClause call 103 [l0, l1, l2] [.int s0] h =
  q_boo true s0 fun z => some (.inl (some (.int z)), h) := by
  refine (q_cut_eq _ _ [0, 35, 36, 54, 55, 83, 84, 102, 103, 130, 131, 149, 150, 180, 181, 211, 212] 200 _ _ _ _).trans ?_
  rfl
set_option maxRecDepth 20000 in
theorem k_X6_readClause_130 (call : Nat → List Value → qH → qR) (l0 : Nat) (l1 : Nat) (l2 : Value) (s0 : Nat) (h : qH) : q_run qm_X6_readClause call 130 [.ref l0, .ref l1, l2] [.ref s0] h =
  q_run qm_X6_readClause call 131 [.ref l0, .ref l1, l2] [.int (0 : Int32), .ref s0] h := by
  refine (q_cut_eq _ _ [0, 35, 36, 54, 55, 83, 84, 102, 103, 130, 131, 149, 150, 180, 181, 211, 212] 200 _ _ _ _).trans ?_
  rfl
set_option maxRecDepth 20000 in
theorem k_X6_readClause_131 (call : Nat → List Value → qH → qR) (l0 : Nat) (l1 : Nat) (l2 : Value) (s0 : Nat) (s1 : Int32) (h : qH) : q_run qm_X6_readClause call 131 [.ref l0, .ref l1, l2] [.int s1, .ref s0] h =
  q_rcv h (.ref s0) 9 (q_rI (call 111 [.ref s0, .int s1] h) q_t0 fun x2 h1 =>
  if q_cmp .eq x2 (0 : Int32) = true then
    q_run qm_X6_readClause call 149 [.ref l0, .ref l1, l2] [] h1
  else
    q_rcv h1 (.ref l0) 6 (q_rI (call 85 [.ref l0, .ref l1] h1) q_t0 fun x4 h3 =>
    if q_cmp .eq x4 (0 : Int32) = true then
      q_run qm_X6_readClause call 149 [.ref l0, .ref l1, l2] [] h3
    else
      q_run qm_X6_readClause call 150 [.ref l0, .ref l1, l2] [.int (1 : Int32)] h3)) := by
  refine (q_cut_eq _ _ [0, 35, 36, 54, 55, 83, 84, 102, 103, 130, 131, 149, 150, 180, 181, 211, 212] 200 _ _ _ _).trans ?_
  rfl
set_option maxRecDepth 20000 in
theorem k_X6_readClause_149 (call : Nat → List Value → qH → qR) (l0 : Value) (l1 : Value) (l2 : Value) (h : qH) : q_run qm_X6_readClause call 149 [l0, l1, l2] [] h =
  q_run qm_X6_readClause call 150 [l0, l1, l2] [.int (0 : Int32)] h := by
  refine (q_cut_eq _ _ [0, 35, 36, 54, 55, 83, 84, 102, 103, 130, 131, 149, 150, 180, 181, 211, 212] 200 _ _ _ _).trans ?_
  rfl
set_option maxRecDepth 20000 in
theorem k_X6_readClause_150 (call : Nat → List Value → qH → qR) (l0 : Value) (l1 : Value) (l2 : Value) (s0 : Int32) (h : qH) : q_run qm_X6_readClause call 150 [l0, l1, l2] [.int s0] h =
  q_boo true s0 fun z => some (.inl (some (.int z)), h) := by
  refine (q_cut_eq _ _ [0, 35, 36, 54, 55, 83, 84, 102, 103, 130, 131, 149, 150, 180, 181, 211, 212] 200 _ _ _ _).trans ?_
  rfl
set_option maxRecDepth 20000 in
theorem k_X6_readClause_180 (call : Nat → List Value → qH → qR) (l0 : Value) (l1 : Value) (l2 : Value) (h : qH) : q_run qm_X6_readClause call 180 [l0, l1, l2] [] h =
  q_run qm_X6_readClause call 181 [l0, l1, l2] [.int (0 : Int32)] h := by
  refine (q_cut_eq _ _ [0, 35, 36, 54, 55, 83, 84, 102, 103, 130, 131, 149, 150, 180, 181, 211, 212] 200 _ _ _ _).trans ?_
  rfl
set_option maxRecDepth 20000 in
theorem k_X6_readClause_181 (call : Nat → List Value → qH → qR) (l0 : Value) (l1 : Value) (l2 : Value) (s0 : Int32) (h : qH) : q_run qm_X6_readClause call 181 [l0, l1, l2] [.int s0] h =
  q_boo true s0 fun z => some (.inl (some (.int z)), h) := by
  refine (q_cut_eq _ _ [0, 35, 36, 54, 55, 83, 84, 102, 103, 130, 131, 149, 150, 180, 181, 211, 212] 200 _ _ _ _).trans ?_
  rfl
set_option maxRecDepth 20000 in
theorem k_X6_readClause_211 (call : Nat → List Value → qH → qR) (l0 : Value) (l1 : Value) (l2 : Value) (h : qH) : q_run qm_X6_readClause call 211 [l0, l1, l2] [] h =
  q_run qm_X6_readClause call 212 [l0, l1, l2] [.int (0 : Int32)] h := by
  refine (q_cut_eq _ _ [0, 35, 36, 54, 55, 83, 84, 102, 103, 130, 131, 149, 150, 180, 181, 211, 212] 200 _ _ _ _).trans ?_
  rfl
set_option maxRecDepth 20000 in
theorem k_X6_readClause_212 (call : Nat → List Value → qH → qR) (l0 : Value) (l1 : Value) (l2 : Value) (s0 : Int32) (h : qH) : q_run qm_X6_readClause call 212 [l0, l1, l2] [.int s0] h =
  q_boo true s0 fun z => some (.inl (some (.int z)), h) := by
  refine (q_cut_eq _ _ [0, 35, 36, 54, 55, 83, 84, 102, 103, 130, 131, 149, 150, 180, 181, 211, 212] 200 _ _ _ _).trans ?_
  rfl
set_option maxRecDepth 20000 in
theorem k_X6_readHouse_0 (call : Nat → List Value → qH → qR) (l0 : Nat) (l1 : Nat) (h : qH) : q_run qm_X6_readHouse call 0 [.ref l0, .ref l1] [] h =
  q_rcv h (.ref l1) 9 (q_rI (call 108 [.ref l1, .int (0 : Int32), .int (999 : Int32)] h) q_t0 fun x2 h1 =>
  if q_cmp .ne x2 (0 : Int32) = true then
    q_gR h1 (.ref l0) 6 5 fun r3 =>
    q_gI h1 (.ref l0) 6 0 fun x4 =>
    q_gI h1 (.ref l1) 9 5 fun x5 =>
    q_ast h1 (.ref r3) 0 x4 x5 fun h6 =>
    q_gI h6 (.ref l0) 6 0 fun x7 =>
    q_pV h6 (.ref l0) 6 0 (.int (x7 + (1 : Int32))) fun h8 =>
    q_boo true (1 : Int32) fun z => some (.inl (some (.int z)), h8)
  else
    q_boo true (0 : Int32) fun z => some (.inl (some (.int z)), h1)) := by
  refine (q_cut_eq _ _ [0] 200 _ _ _ _).trans ?_
  rfl
set_option maxRecDepth 20000 in
theorem k_X6_readFelt_0 (call : Nat → List Value → qH → qR) (l0 : Nat) (l1 : Nat) (h : qH) : q_run qm_X6_readFelt call 0 [.ref l0, .ref l1] [] h =
  q_rcv h (.ref l1) 9 (q_rI (call 108 [.ref l1, .int (4 : Int32), .int (30 : Int32)] h) q_t0 fun x2 h1 =>
  if q_cmp .ne x2 (0 : Int32) = true then
    q_gI h1 (.ref l1) 9 5 fun x3 =>
    q_pV h1 (.ref l0) 6 3 (.int x3) fun h4 =>
    q_boo true (1 : Int32) fun z => some (.inl (some (.int z)), h4)
  else
    q_boo true (0 : Int32) fun z => some (.inl (some (.int z)), h1)) := by
  refine (q_cut_eq _ _ [0] 200 _ _ _ _).trans ?_
  rfl
set_option maxRecDepth 20000 in
theorem k_X6_readNap_0 (call : Nat → List Value → qH → qR) (l0 : Nat) (l1 : Nat) (h : qH) : q_run qm_X6_readNap call 0 [.ref l0, .ref l1] [] h =
  q_rcv h (.ref l1) 9 (q_rI (call 108 [.ref l1, .int (0 : Int32), .int (9 : Int32)] h) q_t0 fun x2 h1 =>
  if q_cmp .ne x2 (0 : Int32) = true then
    q_gI h1 (.ref l1) 9 5 fun x3 =>
    q_pV h1 (.ref l0) 6 4 (.int x3) fun h4 =>
    q_boo true (1 : Int32) fun z => some (.inl (some (.int z)), h4)
  else
    q_boo true (0 : Int32) fun z => some (.inl (some (.int z)), h1)) := by
  refine (q_cut_eq _ _ [0] 200 _ _ _ _).trans ?_
  rfl
set_option maxRecDepth 20000 in
theorem k_X6_readWink_0 (call : Nat → List Value → qH → qR) (l0 : Nat) (l1 : Nat) (h : qH) : q_run qm_X6_readWink call 0 [.ref l0, .ref l1] [] h =
  q_gI h (.ref l0) 6 0 fun x1 =>
  q_rcv h (.ref l1) 9 (q_rI (call 108 [.ref l1, .int (0 : Int32), .int (x1 - (1 : Int32))] h) q_t0 fun x3 h2 =>
  if q_cmp .ne x3 (0 : Int32) = true then
    q_gR h2 (.ref l0) 6 6 fun r4 =>
    q_gI h2 (.ref l0) 6 1 fun x5 =>
    q_gI h2 (.ref l1) 9 5 fun x6 =>
    q_ast h2 (.ref r4) 0 x5 x6 fun h7 =>
    q_rcv h7 (.ref l1) 9 (q_rI (call 108 [.ref l1, .int (1 : Int32), .int (9 : Int32)] h7) q_t0 fun x9 h8 =>
    if q_cmp .ne x9 (0 : Int32) = true then
      q_gR h8 (.ref l0) 6 7 fun r10 =>
      q_gI h8 (.ref l0) 6 1 fun x11 =>
      q_gI h8 (.ref l1) 9 5 fun x12 =>
      q_ast h8 (.ref r10) 0 x11 x12 fun h13 =>
      q_rcv h13 (.ref l1) 9 (q_rI (call 108 [.ref l1, .int (0 : Int32), .int (29 : Int32)] h13) q_t0 fun x15 h14 =>
      if q_cmp .ne x15 (0 : Int32) = true then
        q_gR h14 (.ref l0) 6 8 fun r16 =>
        q_gI h14 (.ref l0) 6 1 fun x17 =>
        q_gI h14 (.ref l1) 9 5 fun x18 =>
        q_ast h14 (.ref r16) 0 x17 x18 fun h19 =>
        q_run qm_X6_readWink call 79 [.ref l0, .ref l1] [] h19
      else
        q_boo true (0 : Int32) fun z => some (.inl (some (.int z)), h14))
    else
      q_boo true (0 : Int32) fun z => some (.inl (some (.int z)), h8))
  else
    q_boo true (0 : Int32) fun z => some (.inl (some (.int z)), h2)) := by
  refine (q_cut_eq _ _ [0, 79] 200 _ _ _ _).trans ?_
  rfl
set_option maxRecDepth 20000 in
theorem k_X6_readWink_79 (call : Nat → List Value → qH → qR) (l0 : Nat) (l1 : Value) (h : qH) : q_run qm_X6_readWink call 79 [.ref l0, l1] [] h =
  q_gI h (.ref l0) 6 1 fun x1 =>
  q_pV h (.ref l0) 6 1 (.int (x1 + (1 : Int32))) fun h2 =>
  q_boo true (1 : Int32) fun z => some (.inl (some (.int z)), h2) := by
  refine (q_cut_eq _ _ [0, 79] 200 _ _ _ _).trans ?_
  rfl
set_option maxRecDepth 20000 in
theorem k_X6_readCup_0 (call : Nat → List Value → qH → qR) (l0 : Nat) (l1 : Nat) (h : qH) : q_run qm_X6_readCup call 0 [.ref l0, .ref l1] [] h =
  q_rcv h (.ref l1) 9 (q_rI (call 108 [.ref l1, .int (0 : Int32), .int (29 : Int32)] h) q_t0 fun x2 h1 =>
  if q_cmp .ne x2 (0 : Int32) = true then
    q_gI h1 (.ref l1) 9 5 fun x3 =>
    q_rcv h1 (.ref l0) 6 (q_rI (call 78 [.ref l0, .int x3] h1) q_t0 fun x5 h4 =>
    if q_cmp .eq x5 (-1 : Int32) = true then
      q_gR h4 (.ref l0) 6 9 fun r6 =>
      q_gI h4 (.ref l0) 6 2 fun x7 =>
      q_gI h4 (.ref l1) 9 5 fun x8 =>
      q_ast h4 (.ref r6) 0 x7 x8 fun h9 =>
      q_rcv h9 (.ref l1) 9 (q_rI (call 108 [.ref l1, .int (1 : Int32), .int (99 : Int32)] h9) q_t0 fun x11 h10 =>
      if q_cmp .ne x11 (0 : Int32) = true then
        q_gR h10 (.ref l0) 6 10 fun r12 =>
        q_gI h10 (.ref l0) 6 2 fun x13 =>
        q_gI h10 (.ref l1) 9 5 fun x14 =>
        q_ast h10 (.ref r12) 0 x13 x14 fun h15 =>
        q_gI h15 (.ref l0) 6 2 fun x16 =>
        q_pV h15 (.ref l0) 6 2 (.int (x16 + (1 : Int32))) fun h17 =>
        q_run qm_X6_readCup call 82 [.ref l0, .ref l1] [] h17
      else
        q_boo true (0 : Int32) fun z => some (.inl (some (.int z)), h10))
    else
      q_gI h4 (.ref l1) 9 4 fun x18 =>
      q_rcv h4 (.ref l1) 9 (q_rI (call 104 [.ref l1, .int (2 : Int32), .int x18] h4) q_t0 fun x20 h19 =>
      q_boo true x20 fun z => some (.inl (some (.int z)), h19)))
  else
    q_boo true (0 : Int32) fun z => some (.inl (some (.int z)), h1)) := by
  refine (q_cut_eq _ _ [0, 82] 200 _ _ _ _).trans ?_
  rfl
set_option maxRecDepth 20000 in
theorem k_X6_readCup_82 (call : Nat → List Value → qH → qR) (l0 : Value) (l1 : Value) (h : qH) : q_run qm_X6_readCup call 82 [l0, l1] [] h =
  q_boo true (1 : Int32) fun z => some (.inl (some (.int z)), h) := by
  refine (q_cut_eq _ _ [0, 82] 200 _ _ _ _).trans ?_
  rfl
set_option maxRecDepth 20000 in
theorem k_X6_allOnFelt_0 (call : Nat → List Value → qH → qR) (l0 : Nat) (h : qH) : q_run qm_X6_allOnFelt call 0 [.ref l0, q_junk] [] h =
  q_run qm_X6_allOnFelt call 2 [.ref l0, .int (0 : Int32)] [] h := by
  refine (q_cut_eq _ _ [0, 2, 33] 200 _ _ _ _).trans ?_
  rfl
set_option maxRecDepth 20000 in
theorem k_X6_allOnFelt_2 (call : Nat → List Value → qH → qR) (l0 : Nat) (l1 : Int32) (h : qH) : q_run qm_X6_allOnFelt call 2 [.ref l0, .int l1] [] h =
  q_gI h (.ref l0) 6 1 fun x1 =>
  if q_cmp .ge l1 x1 = true then
    q_run qm_X6_allOnFelt call 33 [.ref l0, .int (0 : Int32)] [] h
  else
    q_gR h (.ref l0) 6 8 fun r2 =>
    q_ald h (.ref r2) 0 l1 fun x3 =>
    q_gI h (.ref l0) 6 3 fun x4 =>
    if q_cmp .lt x3 x4 = true then
      q_run qm_X6_allOnFelt call 2 [.ref l0, .int (l1 + (1 : Int32))] [] h
    else
      q_boo true (0 : Int32) fun z => some (.inl (some (.int z)), h) := by
  refine (q_cut_eq _ _ [0, 2, 33] 200 _ _ _ _).trans ?_
  rfl
set_option maxRecDepth 20000 in
theorem k_X6_allOnFelt_33 (call : Nat → List Value → qH → qR) (l0 : Nat) (l1 : Int32) (h : qH) : q_run qm_X6_allOnFelt call 33 [.ref l0, .int l1] [] h =
  q_gI h (.ref l0) 6 2 fun x1 =>
  if q_cmp .ge l1 x1 = true then
    q_boo true (1 : Int32) fun z => some (.inl (some (.int z)), h)
  else
    q_gR h (.ref l0) 6 9 fun r2 =>
    q_ald h (.ref r2) 0 l1 fun x3 =>
    q_gI h (.ref l0) 6 3 fun x4 =>
    if q_cmp .lt x3 x4 = true then
      q_run qm_X6_allOnFelt call 33 [.ref l0, .int (l1 + (1 : Int32))] [] h
    else
      q_boo true (0 : Int32) fun z => some (.inl (some (.int z)), h) := by
  refine (q_cut_eq _ _ [0, 2, 33] 200 _ _ _ _).trans ?_
  rfl
set_option maxRecDepth 20000 in
theorem k_X7_init_0 (call : Nat → List Value → qH → qR) (l0 : Nat) (l1 : Nat) (l2 : Nat) (h : qH) : q_run qm_X7_init call 0 [.ref l0, .ref l1, .ref l2] [] h =
  q_pV h (.ref l0) 7 0 (.ref l1) fun h1 =>
  q_pV h1 (.ref l0) 7 1 (.ref l2) fun h2 =>
  some (.inl none, h2) := by
  refine (q_cut_eq _ _ [0] 200 _ _ _ _).trans ?_
  rfl
set_option maxRecDepth 20000 in
theorem k_X7_run_0 (call : Nat → List Value → qH → qR) (l0 : Nat) (l1 : Int32) (l2 : Int32) (l3 : Int32) (h : qH) : q_run qm_X7_run call 0 [.ref l0, .int l1, .int l2, .int l3, q_junk, q_junk, q_junk, q_junk] [] h =
  q_pV h (.ref l0) 7 2 (.int l1) fun h1 =>
  q_pV h1 (.ref l0) 7 3 (.int (0 : Int32)) fun h2 =>
  q_gR h2 (.ref l0) 7 0 fun r3 =>
  q_gI h2 (.ref r3) 6 1 fun x4 =>
  if q_cmp .ne x4 (0 : Int32) = true then
    q_run qm_X7_run call 24 [.ref l0, .int l1, .int l2, .int l3, .int (1 : Int32), q_junk, q_junk, q_junk] [] h2
  else
    some (.inl none, h2) := by
  refine (q_cut_eq _ _ [0, 24, 86, 104, 118] 200 _ _ _ _).trans ?_
  rfl
set_option maxRecDepth 20000 in
theorem k_X7_run_24 (call : Nat → List Value → qH → qR) (l0 : Nat) (l1 : Value) (l2 : Int32) (l3 : Int32) (l4 : Int32) (l5 : Value) (l6 : Value) (l7 : Value) (h : qH) : q_run qm_X7_run call 24 [.ref l0, l1, .int l2, .int l3, .int l4, l5, l6, l7] [] h =
  if q_cmp .gt l4 l3 = true then
    some (.inl none, h)
  else
    q_gR h (.ref l0) 7 0 fun r1 =>
    q_gI h (.ref r1) 6 1 fun x2 =>
    q_rcv h (.ref l0) 7 (q_rI (call 89 [.ref l0, .int x2] h) q_t0 fun x4 h3 =>
    q_rcv h3 (.ref l0) 7 (q_rI (call 89 [.ref l0, .int (9 : Int32)] h3) q_t0 fun x6 h5 =>
    q_rcv h5 (.ref l0) 7 (q_rI (call 89 [.ref l0, .int (2 : Int32)] h5) q_t0 fun x8 h7 =>
    q_gR h7 (.ref l0) 7 1 fun r9 =>
    q_rcv h7 (.ref r9) 1 (q_rI (call 39 [.ref r9, .int x4, .int (x6 + (1 : Int32)), .int x8] h7) q_t0 fun x11 h10 =>
    if q_cmp .eq x11 (0 : Int32) = true then
      q_run qm_X7_run call 86 [.ref l0, l1, .int l2, .int l3, .int l4, .int x4, .int (x6 + (1 : Int32)), .int x8] [] h10
    else
      q_gI h10 (.ref l0) 7 3 fun x12 =>
      q_pV h10 (.ref l0) 7 3 (.int (x12 + (1 : Int32))) fun h13 =>
      q_run qm_X7_run call 86 [.ref l0, l1, .int l2, .int l3, .int l4, .int x4, .int (x6 + (1 : Int32)), .int x8] [] h13)))) := by
  refine (q_cut_eq _ _ [0, 24, 86, 104, 118] 200 _ _ _ _).trans ?_
  rfl
set_option maxRecDepth 20000 in
theorem k_X7_run_86 (call : Nat → List Value → qH → qR) (l0 : Nat) (l1 : Value) (l2 : Int32) (l3 : Int32) (l4 : Int32) (l5 : Value) (l6 : Value) (l7 : Value) (h : qH) : q_run qm_X7_run call 86 [.ref l0, l1, .int l2, .int l3, .int l4, l5, l6, l7] [] h =
  q_rcv h (.ref l0) 7 (q_rI (call 89 [.ref l0, .int (16 : Int32)] h) q_t0 fun x2 h1 =>
  if q_cmp .ge x2 l2 = true then
    q_run qm_X7_run call 104 [.ref l0, l1, .int l2, .int l3, .int l4, l5, l6, l7] [] h1
  else
    q_gR h1 (.ref l0) 7 1 fun r3 =>
    q_rcv h1 (.ref r3) 1 (q_rI (call 41 [.ref r3] h1) q_t0 fun x5 h4 =>
    q_run qm_X7_run call 104 [.ref l0, l1, .int l2, .int l3, .int l4, l5, l6, l7] [] h4)) := by
  refine (q_cut_eq _ _ [0, 24, 86, 104, 118] 200 _ _ _ _).trans ?_
  rfl
set_option maxRecDepth 20000 in
theorem k_X7_run_104 (call : Nat → List Value → qH → qR) (l0 : Nat) (l1 : Value) (l2 : Int32) (l3 : Int32) (l4 : Int32) (l5 : Value) (l6 : Value) (l7 : Value) (h : qH) : q_run qm_X7_run call 104 [.ref l0, l1, .int l2, .int l3, .int l4, l5, l6, l7] [] h =
  if q_cmp .ne (l4 - l4 / (4 : Int32) * (4 : Int32)) (0 : Int32) = true then
    q_run qm_X7_run call 118 [.ref l0, l1, .int l2, .int l3, .int l4, l5, l6, l7] [] h
  else
    q_gR h (.ref l0) 7 1 fun r1 =>
    q_rcv h (.ref r1) 1 (q_rV (call 43 [.ref r1] h) q_t0 fun h2 =>
    q_run qm_X7_run call 118 [.ref l0, l1, .int l2, .int l3, .int l4, l5, l6, l7] [] h2) := by
  refine (q_cut_eq _ _ [0, 24, 86, 104, 118] 200 _ _ _ _).trans ?_
  rfl
set_option maxRecDepth 20000 in
theorem k_X7_run_118 (call : Nat → List Value → qH → qR) (l0 : Nat) (l1 : Value) (l2 : Int32) (l3 : Int32) (l4 : Int32) (l5 : Value) (l6 : Value) (l7 : Value) (h : qH) : q_run qm_X7_run call 118 [.ref l0, l1, .int l2, .int l3, .int l4, l5, l6, l7] [] h =
  q_run qm_X7_run call 24 [.ref l0, l1, .int l2, .int l3, .int (l4 + (1 : Int32)), l5, l6, l7] [] h := by
  refine (q_cut_eq _ _ [0, 24, 86, 104, 118] 200 _ _ _ _).trans ?_
  rfl
set_option maxRecDepth 20000 in
theorem k_X7_draw_0 (call : Nat → List Value → qH → qR) (l0 : Nat) (l1 : Int32) (h : qH) : q_run qm_X7_draw call 0 [.ref l0, .int l1] [] h =
  q_gI h (.ref l0) 7 2 fun x1 =>
  q_pV h (.ref l0) 7 2 (.int ((x1 * (1103515245 : Int32)) + (12345 : Int32))) fun h2 =>
  if q_cmp .ge l1 (1 : Int32) = true then
    q_gI h2 (.ref l0) 7 2 fun x3 =>
    if l1 = 0 then none else
    q_run qm_X7_draw call 37 [.ref l0, .int l1] [.int ((((Int32.toUInt32 x3 >>> (Int32.toUInt32 (16 : Int32) &&& Int32.toUInt32 31)).toInt32) &&& (32767 : Int32)) - (((Int32.toUInt32 x3 >>> (Int32.toUInt32 (16 : Int32) &&& Int32.toUInt32 31)).toInt32) &&& (32767 : Int32)) / l1 * l1)] h2
  else
    q_run qm_X7_draw call 37 [.ref l0, .int l1] [.int (0 : Int32)] h2 := by
  refine (q_cut_eq _ _ [0, 37] 200 _ _ _ _).trans ?_
  rfl
set_option maxRecDepth 20000 in
theorem k_X7_draw_37 (call : Nat → List Value → qH → qR) (l0 : Value) (l1 : Value) (s0 : Int32) (h : qH) : q_run qm_X7_draw call 37 [l0, l1] [.int s0] h =
  some (.inl (some (.int s0)), h) := by
  refine (q_cut_eq _ _ [0, 37] 200 _ _ _ _).trans ?_
  rfl
