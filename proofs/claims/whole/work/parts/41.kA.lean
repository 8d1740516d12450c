set_option maxRecDepth 20000 in
theorem k_X0_init_0 (call : Nat → List Value → qH → qR) (l0 : Nat) (l1 : Nat) (l2 : Nat) (l3 : Nat) (h : qH) : q_run qm_X0_init call 0 [.ref l0, .ref l1, .ref l2, .ref l3] [] h =
  q_nar h 0 (30 : Int32) fun r1 h2 =>
  q_pV h2 (.ref l0) 0 3 (.ref r1) fun h3 =>
  q_nar h3 0 (30 : Int32) fun r4 h5 =>
  q_pV h5 (.ref l0) 0 4 (.ref r4) fun h6 =>
  q_nar h6 0 (30 : Int32) fun r7 h8 =>
  q_pV h8 (.ref l0) 0 5 (.ref r7) fun h9 =>
  q_run qm_X0_init call 28 [.ref l0, .ref l1, .ref l2, .ref l3] [] h9 := by
  refine (q_cut_eq _ _ [0, 28, 57] 200 _ _ _ _).trans ?_
  rfl
set_option maxRecDepth 20000 in
theorem k_X0_init_28 (call : Nat → List Value → qH → qR) (l0 : Nat) (l1 : Nat) (l2 : Nat) (l3 : Nat) (h : qH) : q_run qm_X0_init call 28 [.ref l0, .ref l1, .ref l2, .ref l3] [] h =
  q_nar h 0 (4 : Int32) fun r1 h2 =>
  q_pV h2 (.ref l0) 0 6 (.ref r1) fun h3 =>
  q_nar h3 0 (4 : Int32) fun r4 h5 =>
  q_pV h5 (.ref l0) 0 7 (.ref r4) fun h6 =>
  q_pV h6 (.ref l0) 0 0 (.ref l1) fun h7 =>
  q_pV h7 (.ref l0) 0 1 (.ref l2) fun h8 =>
  q_pV h8 (.ref l0) 0 2 (.ref l3) fun h9 =>
  q_run qm_X0_init call 57 [.ref l0, .ref l1, .ref l2, .ref l3] [] h9 := by
  refine (q_cut_eq _ _ [0, 28, 57] 200 _ _ _ _).trans ?_
  rfl
set_option maxRecDepth 20000 in
theorem k_X0_init_57 (call : Nat → List Value → qH → qR) (l0 : Value) (l1 : Value) (l2 : Value) (l3 : Value) (h : qH) : q_run qm_X0_init call 57 [l0, l1, l2, l3] [] h =
  some (.inl none, h) := by
  refine (q_cut_eq _ _ [0, 28, 57] 200 _ _ _ _).trans ?_
  rfl
set_option maxRecDepth 20000 in
theorem k_X0_cupHit_0 (call : Nat → List Value → qH → qR) (l0 : Nat) (l1 : Int32) (l2 : Int32) (l3 : Int32) (h : qH) : q_run qm_X0_cupHit call 0 [.ref l0, .int l1, .int l2, .int l3, q_junk] [] h =
  q_gR h (.ref l0) 0 1 fun r1 =>
  q_rcv h (.ref r1) 1 (q_rI (call 24 [.ref r1, .int l1] h) q_t0 fun x3 h2 =>
  if q_cmp .eq x3 (0 : Int32) = true then
    q_run qm_X0_cupHit call 24 [.ref l0, .int l1, .int l2, .int l3, q_junk] [.int (0 : Int32)] h2
  else
    q_gR h2 (.ref l0) 0 1 fun r4 =>
    q_rcv h2 (.ref r4) 1 (q_rI (call 34 [.ref r4, .int l1, .int l2] h2) q_t0 fun x6 h5 =>
    q_run qm_X0_cupHit call 24 [.ref l0, .int l1, .int l2, .int l3, q_junk] [.int x6] h5)) := by
  refine (q_cut_eq _ _ [0, 24, 68] 200 _ _ _ _).trans ?_
  rfl
set_option maxRecDepth 20000 in
theorem k_X0_cupHit_24 (call : Nat → List Value → qH → qR) (l0 : Nat) (l1 : Int32) (l2 : Value) (l3 : Int32) (l4 : Value) (s0 : Int32) (h : qH) : q_run qm_X0_cupHit call 24 [.ref l0, .int l1, l2, .int l3, l4] [.int s0] h =
  if q_cmp .ne s0 (0 : Int32) = true then
    q_gR h (.ref l0) 0 0 fun r1 =>
    if q_cmp .ne l3 (0 : Int32) = true then
      q_gR h (.ref l0) 0 1 fun r2 =>
      q_gR h (.ref r2) 1 2 fun r3 =>
      q_ald h (.ref r3) 0 l1 fun x4 =>
      q_run qm_X0_cupHit call 68 [.ref l0, .int l1, l2, .int l3, .int s0] [.int (x4 - s0), .ref r1] h
    else
      q_gR h (.ref l0) 0 1 fun r5 =>
      q_gR h (.ref r5) 1 2 fun r6 =>
      q_ald h (.ref r6) 0 l1 fun x7 =>
      q_run qm_X0_cupHit call 68 [.ref l0, .int l1, l2, .int l3, .int s0] [.int (x7 + s0), .ref r1] h
  else
    some (.inl (some (.int (-1 : Int32))), h) := by
  refine (q_cut_eq _ _ [0, 24, 68] 200 _ _ _ _).trans ?_
  rfl
set_option maxRecDepth 20000 in
theorem k_X0_cupHit_68 (call : Nat → List Value → qH → qR) (l0 : Value) (l1 : Value) (l2 : Value) (l3 : Value) (l4 : Value) (s0 : Nat) (s1 : Int32) (h : qH) : q_run qm_X0_cupHit call 68 [l0, l1, l2, l3, l4] [.int s1, .ref s0] h =
  q_rcv h (.ref s0) 6 (q_rI (call 78 [.ref s0, .int s1] h) q_t0 fun x2 h1 =>
  some (.inl (some (.int x2)), h1)) := by
  refine (q_cut_eq _ _ [0, 24, 68] 200 _ _ _ _).trans ?_
  rfl
set_option maxRecDepth 20000 in
theorem k_X0_paidFor_0 (call : Nat → List Value → qH → qR) (l0 : Nat) (l1 : Int32) (l2 : Int32) (l3 : Int32) (h : qH) : q_run qm_X0_paidFor call 0 [.ref l0, .int l1, .int l2, .int l3, q_junk] [] h =
  q_rcv h (.ref l0) 0 (q_rI (call 1 [.ref l0, .int l1, .int l2, .int l3] h) q_t0 fun x2 h1 =>
  if q_cmp .ne x2 (-1 : Int32) = true then
    q_gR h1 (.ref l0) 0 0 fun r3 =>
    q_gR h1 (.ref r3) 6 10 fun r4 =>
    q_ald h1 (.ref r4) 0 x2 fun x5 =>
    q_run qm_X0_paidFor call 29 [.ref l0, .int l1, .int l2, .int l3, .int x2] [.int x5] h1
  else
    q_run qm_X0_paidFor call 29 [.ref l0, .int l1, .int l2, .int l3, .int x2] [.int (0 : Int32)] h1) := by
  refine (q_cut_eq _ _ [0, 29] 200 _ _ _ _).trans ?_
  rfl
set_option maxRecDepth 20000 in
theorem k_X0_paidFor_29 (call : Nat → List Value → qH → qR) (l0 : Value) (l1 : Value) (l2 : Value) (l3 : Value) (l4 : Value) (s0 : Int32) (h : qH) : q_run qm_X0_paidFor call 29 [l0, l1, l2, l3, l4] [.int s0] h =
  some (.inl (some (.int s0)), h) := by
  refine (q_cut_eq _ _ [0, 29] 200 _ _ _ _).trans ?_
  rfl
set_option maxRecDepth 20000 in
theorem k_X0_seekGain_0 (call : Nat → List Value → qH → qR) (l0 : Nat) (l1 : Int32) (h : qH) : q_run qm_X0_seekGain call 0 [.ref l0, .int l1, q_junk] [] h =
  q_pV h (.ref l0) 0 9 (.int (0 : Int32)) fun h1 =>
  q_pV h1 (.ref l0) 0 10 (.int (-1 : Int32)) fun h2 =>
  q_run qm_X0_seekGain call 12 [.ref l0, .int l1, .int (0 : Int32)] [] h2 := by
  refine (q_cut_eq _ _ [0, 12, 52] 200 _ _ _ _).trans ?_
  rfl
set_option maxRecDepth 20000 in
theorem k_X0_seekGain_12 (call : Nat → List Value → qH → qR) (l0 : Nat) (l1 : Int32) (l2 : Int32) (h : qH) : q_run qm_X0_seekGain call 12 [.ref l0, .int l1, .int l2] [] h =
  q_gR h (.ref l0) 0 0 fun r1 =>
  q_gI h (.ref r1) 6 1 fun x2 =>
  if q_cmp .ge l2 x2 = true then
    some (.inl none, h)
  else
    q_gR h (.ref l0) 0 0 fun r3 =>
    q_gR h (.ref r3) 6 6 fun r4 =>
    q_ald h (.ref r4) 0 l2 fun x5 =>
    if q_cmp .ne x5 l1 = true then
      q_run qm_X0_seekGain call 52 [.ref l0, .int l1, .int l2] [] h
    else
      q_gR h (.ref l0) 0 1 fun r6 =>
      q_rcv h (.ref r6) 1 (q_rI (call 24 [.ref r6, .int l2] h) q_t0 fun x8 h7 =>
      if q_cmp .eq x8 (0 : Int32) = true then
        q_run qm_X0_seekGain call 52 [.ref l0, .int l1, .int l2] [] h7
      else
        q_rcv h7 (.ref l0) 0 (q_rV (call 4 [.ref l0, .int l2] h7) q_t0 fun h9 =>
        q_run qm_X0_seekGain call 52 [.ref l0, .int l1, .int l2] [] h9)) := by
  refine (q_cut_eq _ _ [0, 12, 52] 200 _ _ _ _).trans ?_
  rfl
set_option maxRecDepth 20000 in
theorem k_X0_seekGain_52 (call : Nat → List Value → qH → qR) (l0 : Nat) (l1 : Int32) (l2 : Int32) (h : qH) : q_run qm_X0_seekGain call 52 [.ref l0, .int l1, .int l2] [] h =
  q_run qm_X0_seekGain call 12 [.ref l0, .int l1, .int (l2 + (1 : Int32))] [] h := by
  refine (q_cut_eq _ _ [0, 12, 52] 200 _ _ _ _).trans ?_
  rfl
set_option maxRecDepth 20000 in
theorem k_X0_seekGainOf_0 (call : Nat → List Value → qH → qR) (l0 : Nat) (l1 : Int32) (h : qH) : q_run qm_X0_seekGainOf call 0 [.ref l0, .int l1, q_junk, q_junk, q_junk] [] h =
  q_run qm_X0_seekGainOf call 2 [.ref l0, .int l1, .int (1 : Int32), q_junk, q_junk] [] h := by
  refine (q_cut_eq _ _ [0, 2, 10, 41, 62] 200 _ _ _ _).trans ?_
  rfl
set_option maxRecDepth 20000 in
theorem k_X0_seekGainOf_2 (call : Nat → List Value → qH → qR) (l0 : Nat) (l1 : Int32) (l2 : Int32) (l3 : Value) (l4 : Value) (h : qH) : q_run qm_X0_seekGainOf call 2 [.ref l0, .int l1, .int l2, l3, l4] [] h =
  if q_cmp .gt l2 (9 : Int32) = true then
    some (.inl none, h)
  else
    q_run qm_X0_seekGainOf call 10 [.ref l0, .int l1, .int l2, .int (0 : Int32), l4] [] h := by
  refine (q_cut_eq _ _ [0, 2, 10, 41, 62] 200 _ _ _ _).trans ?_
  rfl
set_option maxRecDepth 20000 in
theorem k_X0_seekGainOf_10 (call : Nat → List Value → qH → qR) (l0 : Nat) (l1 : Int32) (l2 : Int32) (l3 : Int32) (l4 : Value) (h : qH) : q_run qm_X0_seekGainOf call 10 [.ref l0, .int l1, .int l2, .int l3, l4] [] h =
  if q_cmp .gt l3 (1 : Int32) = true then
    q_run qm_X0_seekGainOf call 2 [.ref l0, .int l1, .int (l2 + (1 : Int32)), .int l3, l4] [] h
  else
    q_rcv h (.ref l0) 0 (q_rI (call 2 [.ref l0, .int l1, .int l2, .int l3] h) q_t0 fun x2 h1 =>
    q_gI h1 (.ref l0) 0 10 fun x3 =>
    if q_cmp .eq x3 (-1 : Int32) = true then
      q_run qm_X0_seekGainOf call 41 [.ref l0, .int l1, .int l2, .int l3, .int x2] [] h1
    else
      q_gI h1 (.ref l0) 0 9 fun x4 =>
      if q_cmp .le x2 x4 = true then
        q_run qm_X0_seekGainOf call 62 [.ref l0, .int l1, .int l2, .int l3, .int x2] [] h1
      else
        q_run qm_X0_seekGainOf call 41 [.ref l0, .int l1, .int l2, .int l3, .int x2] [] h1) := by
  refine (q_cut_eq _ _ [0, 2, 10, 41, 62] 200 _ _ _ _).trans ?_
  rfl
set_option maxRecDepth 20000 in
theorem k_X0_seekGainOf_41 (call : Nat → List Value → qH → qR) (l0 : Nat) (l1 : Int32) (l2 : Int32) (l3 : Int32) (l4 : Int32) (h : qH) : q_run qm_X0_seekGainOf call 41 [.ref l0, .int l1, .int l2, .int l3, .int l4] [] h =
  q_pV h (.ref l0) 0 9 (.int l4) fun h1 =>
  q_pV h1 (.ref l0) 0 10 (.int ((((100 : Int32) * l1) + ((10 : Int32) * l2)) + l3)) fun h2 =>
  q_run qm_X0_seekGainOf call 62 [.ref l0, .int l1, .int l2, .int l3, .int l4] [] h2 := by
  refine (q_cut_eq _ _ [0, 2, 10, 41, 62] 200 _ _ _ _).trans ?_
  rfl
set_option maxRecDepth 20000 in
theorem k_X0_seekGainOf_62 (call : Nat → List Value → qH → qR) (l0 : Nat) (l1 : Int32) (l2 : Int32) (l3 : Int32) (l4 : Value) (h : qH) : q_run qm_X0_seekGainOf call 62 [.ref l0, .int l1, .int l2, .int l3, l4] [] h =
  q_run qm_X0_seekGainOf call 10 [.ref l0, .int l1, .int l2, .int (l3 + (1 : Int32)), l4] [] h := by
  refine (q_cut_eq _ _ [0, 2, 10, 41, 62] 200 _ _ _ _).trans ?_
  rfl
set_option maxRecDepth 20000 in
theorem k_X0_seekWay_0 (call : Nat → List Value → qH → qR) (l0 : Nat) (l1 : Int32) (h : qH) : q_run qm_X0_seekWay call 0 [.ref l0, .int l1, q_junk] [] h =
  q_pV h (.ref l0) 0 9 (.int (-1 : Int32)) fun h1 =>
  q_pV h1 (.ref l0) 0 10 (.int (-1 : Int32)) fun h2 =>
  q_gR h2 (.ref l0) 0 1 fun r3 =>
  q_rcv h2 (.ref r3) 1 (q_rI (call 24 [.ref r3, .int l1] h2) q_t0 fun x5 h4 =>
  if q_cmp .ne x5 (0 : Int32) = true then
    q_run qm_X0_seekWay call 24 [.ref l0, .int l1, .int (0 : Int32)] [] h4
  else
    some (.inl none, h4)) := by
  refine (q_cut_eq _ _ [0, 24, 65, 107] 200 _ _ _ _).trans ?_
  rfl
set_option maxRecDepth 20000 in
theorem k_X0_seekWay_24 (call : Nat → List Value → qH → qR) (l0 : Nat) (l1 : Int32) (l2 : Int32) (h : qH) : q_run qm_X0_seekWay call 24 [.ref l0, .int l1, .int l2] [] h =
  if q_cmp .ge l2 (30 : Int32) = true then
    q_pV h (.ref l0) 0 8 (.int (0 : Int32)) fun h1 =>
    q_gR h1 (.ref l0) 0 1 fun r2 =>
    q_gR h1 (.ref r2) 1 2 fun r3 =>
    q_ald h1 (.ref r3) 0 l1 fun x4 =>
    q_rcv h1 (.ref l0) 0 (q_rV (call 6 [.ref l0, .int x4, .int (0 : Int32), .int (-1 : Int32)] h1) q_t0 fun h5 =>
    q_run qm_X0_seekWay call 65 [.ref l0, .int l1, .int (0 : Int32)] [] h5)
  else
    q_gR h (.ref l0) 0 4 fun r7 =>
    q_ast h (.ref r7) 0 l2 (-1 : Int32) fun h8 =>
    q_run qm_X0_seekWay call 24 [.ref l0, .int l1, .int (l2 + (1 : Int32))] [] h8 := by
  refine (q_cut_eq _ _ [0, 24, 65, 107] 200 _ _ _ _).trans ?_
  rfl
set_option maxRecDepth 20000 in
theorem k_X0_seekWay_65 (call : Nat → List Value → qH → qR) (l0 : Nat) (l1 : Int32) (l2 : Int32) (h : qH) : q_run qm_X0_seekWay call 65 [.ref l0, .int l1, .int l2] [] h =
  q_gR h (.ref l0) 0 3 fun r1 =>
  q_len h (.ref r1) fun x2 =>
  if q_cmp .ge l2 x2 = true then
    q_run qm_X0_seekWay call 107 [.ref l0, .int l1, .int l2] [] h
  else
    q_gI h (.ref l0) 0 8 fun x3 =>
    if q_cmp .ge l2 x3 = true then
      q_run qm_X0_seekWay call 107 [.ref l0, .int l1, .int l2] [] h
    else
      q_gI h (.ref l0) 0 9 fun x4 =>
      if q_cmp .ne x4 (-1 : Int32) = true then
        q_run qm_X0_seekWay call 107 [.ref l0, .int l1, .int l2] [] h
      else
        q_gR h (.ref l0) 0 3 fun r5 =>
        q_ald h (.ref r5) 0 l2 fun x6 =>
        q_rcv h (.ref l0) 0 (q_rV (call 7 [.ref l0, .int l1, .int x6] h) q_t0 fun h7 =>
        q_run qm_X0_seekWay call 65 [.ref l0, .int l1, .int (l2 + (1 : Int32))] [] h7) := by
  refine (q_cut_eq _ _ [0, 24, 65, 107] 200 _ _ _ _).trans ?_
  rfl
set_option maxRecDepth 20000 in
theorem k_X0_seekWay_107 (call : Nat → List Value → qH → qR) (l0 : Value) (l1 : Value) (l2 : Value) (h : qH) : q_run qm_X0_seekWay call 107 [l0, l1, l2] [] h =
  some (.inl none, h) := by
  refine (q_cut_eq _ _ [0, 24, 65, 107] 200 _ _ _ _).trans ?_
  rfl
set_option maxRecDepth 20000 in
theorem k_X0_reach_0 (call : Nat → List Value → qH → qR) (l0 : Nat) (l1 : Int32) (l2 : Int32) (l3 : Int32) (h : qH) : q_run qm_X0_reach call 0 [.ref l0, .int l1, .int l2, .int l3] [] h =
  q_gR h (.ref l0) 0 4 fun r1 =>
  q_ald h (.ref r1) 0 l1 fun x2 =>
  if q_cmp .ne x2 (-1 : Int32) = true then
    q_run qm_X0_reach call 56 [.ref l0, .int l1, .int l2, .int l3] [] h
  else
    q_gI h (.ref l0) 0 8 fun x3 =>
    q_gR h (.ref l0) 0 3 fun r4 =>
    q_len h (.ref r4) fun x5 =>
    if q_cmp .ge x3 x5 = true then
      q_run qm_X0_reach call 56 [.ref l0, .int l1, .int l2, .int l3] [] h
    else
      q_gR h (.ref l0) 0 4 fun r6 =>
      q_ast h (.ref r6) 0 l1 l2 fun h7 =>
      q_gR h7 (.ref l0) 0 5 fun r8 =>
      q_ast h7 (.ref r8) 0 l1 l3 fun h9 =>
      q_gR h9 (.ref l0) 0 3 fun r10 =>
      q_gI h9 (.ref l0) 0 8 fun x11 =>
      q_ast h9 (.ref r10) 0 x11 l1 fun h12 =>
      q_gI h12 (.ref l0) 0 8 fun x13 =>
      q_pV h12 (.ref l0) 0 8 (.int (x13 + (1 : Int32))) fun h14 =>
      q_run qm_X0_reach call 56 [.ref l0, .int l1, .int l2, .int l3] [] h14 := by
  refine (q_cut_eq _ _ [0, 56] 200 _ _ _ _).trans ?_
  rfl
set_option maxRecDepth 20000 in
theorem k_X0_reach_56 (call : Nat → List Value → qH → qR) (l0 : Value) (l1 : Value) (l2 : Value) (l3 : Value) (h : qH) : q_run qm_X0_reach call 56 [l0, l1, l2, l3] [] h =
  some (.inl none, h) := by
  refine (q_cut_eq _ _ [0, 56] 200 _ _ _ _).trans ?_
  rfl
set_option maxRecDepth 20000 in
theorem k_X0_seekWayFrom_0 (call : Nat → List Value → qH → qR) (l0 : Nat) (l1 : Int32) (l2 : Int32) (h : qH) : q_run qm_X0_seekWayFrom call 0 [.ref l0, .int l1, .int l2, q_junk, q_junk, q_junk, q_junk] [] h =
  q_gR h (.ref l0) 0 1 fun r1 =>
  q_rcv h (.ref r1) 1 (q_rV (call 33 [.ref r1, .int l1] h) q_t0 fun h2 =>
  q_gR h2 (.ref l0) 0 2 fun r4 =>
  q_gR h2 (.ref r4) 5 3 fun r5 =>
  q_ast h2 (.ref r5) 0 (6 : Int32) l2 fun h6 =>
  q_gR h6 (.ref l0) 0 2 fun r7 =>
  q_gR h6 (.ref r7) 5 3 fun r8 =>
  q_gR h6 (.ref l0) 0 1 fun r9 =>
  q_gR h6 (.ref r9) 1 2 fun r10 =>
  q_ald h6 (.ref r10) 0 l1 fun x11 =>
  if q_cmp .ne l2 x11 = true then
    q_gR h6 (.ref l0) 0 1 fun r12 =>
    q_gR h6 (.ref r12) 1 6 fun r13 =>
    q_ald h6 (.ref r13) 0 l2 fun x14 =>
    q_run qm_X0_seekWayFrom call 61 [.ref l0, .int l1, .int l2, q_junk, q_junk, q_junk, q_junk] [.int x14, .int (4 : Int32), .ref r8] h6
  else
    q_gR h6 (.ref l0) 0 1 fun r15 =>
    q_gR h6 (.ref r15) 1 3 fun r16 =>
    q_ald h6 (.ref r16) 0 l1 fun x17 =>
    q_run qm_X0_seekWayFrom call 61 [.ref l0, .int l1, .int l2, q_junk, q_junk, q_junk, q_junk] [.int x17, .int (4 : Int32), .ref r8] h6) := by
  refine (q_cut_eq _ _ [0, 61, 64, 91, 136, 155, 174, 180] 200 _ _ _ _).trans ?_
  rfl
set_option maxRecDepth 20000 in
theorem k_X0_seekWayFrom_61 (call : Nat → List Value → qH → qR) (l0 : Nat) (l1 : Value) (l2 : Int32) (l3 : Value) (l4 : Value) (l5 : Value) (l6 : Value) (s0 : Nat) (s1 : Int32) (s2 : Int32) (h : qH) : q_run qm_X0_seekWayFrom call 61 [.ref l0, l1, .int l2, l3, l4, l5, l6] [.int s2, .int s1, .ref s0] h =
  q_ast h (.ref s0) 0 s1 s2 fun h1 =>
  q_run qm_X0_seekWayFrom call 64 [.ref l0, l1, .int l2, .int (1 : Int32), l4, l5, l6] [] h1 := by
  refine (q_cut_eq _ _ [0, 61, 64, 91, 136, 155, 174, 180] 200 _ _ _ _).trans ?_
  rfl
set_option maxRecDepth 20000 in
theorem k_X0_seekWayFrom_64 (call : Nat → List Value → qH → qR) (l0 : Nat) (l1 : Value) (l2 : Int32) (l3 : Int32) (l4 : Value) (l5 : Value) (l6 : Value) (h : qH) : q_run qm_X0_seekWayFrom call 64 [.ref l0, l1, .int l2, .int l3, l4, l5, l6] [] h =
  if q_cmp .gt l3 (9 : Int32) = true then
    q_run qm_X0_seekWayFrom call 180 [.ref l0, l1, .int l2, .int l3, l4, l5, l6] [] h
  else
    q_gI h (.ref l0) 0 9 fun x1 =>
    if q_cmp .ne x1 (-1 : Int32) = true then
      q_run qm_X0_seekWayFrom call 180 [.ref l0, l1, .int l2, .int l3, l4, l5, l6] [] h
    else
      q_gR h (.ref l0) 0 2 fun r2 =>
      q_rcv h (.ref r2) 5 (q_rI (call 72 [.ref r2, .int l3] h) q_t0 fun x4 h3 =>
      q_run qm_X0_seekWayFrom call 91 [.ref l0, l1, .int l2, .int l3, .int x4, .int (0 : Int32), l6] [] h3) := by
  refine (q_cut_eq _ _ [0, 61, 64, 91, 136, 155, 174, 180] 200 _ _ _ _).trans ?_
  rfl
set_option maxRecDepth 20000 in
theorem k_X0_seekWayFrom_91 (call : Nat → List Value → qH → qR) (l0 : Nat) (l1 : Value) (l2 : Int32) (l3 : Int32) (l4 : Int32) (l5 : Int32) (l6 : Value) (h : qH) : q_run qm_X0_seekWayFrom call 91 [.ref l0, l1, .int l2, .int l3, .int l4, .int l5, l6] [] h =
  if q_cmp .gt l5 (1 : Int32) = true then
    q_run qm_X0_seekWayFrom call 174 [.ref l0, l1, .int l2, .int l3, .int l4, .int l5, l6] [] h
  else
    if q_cmp .le l4 (0 : Int32) = true then
      q_run qm_X0_seekWayFrom call 174 [.ref l0, l1, .int l2, .int l3, .int l4, .int l5, l6] [] h
    else
      q_gI h (.ref l0) 0 9 fun x1 =>
      if q_cmp .ne x1 (-1 : Int32) = true then
        q_run qm_X0_seekWayFrom call 174 [.ref l0, l1, .int l2, .int l3, .int l4, .int l5, l6] [] h
      else
        q_gR h (.ref l0) 0 5 fun r2 =>
        q_ald h (.ref r2) 0 l2 fun x3 =>
        if q_cmp .ne x3 (-1 : Int32) = true then
          q_gR h (.ref l0) 0 5 fun r4 =>
          q_ald h (.ref r4) 0 l2 fun x5 =>
          q_run qm_X0_seekWayFrom call 136 [.ref l0, l1, .int l2, .int l3, .int l4, .int l5, l6] [.int x5] h
        else
          q_run qm_X0_seekWayFrom call 136 [.ref l0, l1, .int l2, .int l3, .int l4, .int l5, l6] [.int (((10 : Int32) * l3) + l5)] h := by
  refine (q_cut_eq _ _ [0, 61, 64, 91, 136, 155, 174, 180] 200 _ _ _ _).trans ?_
  rfl
set_option maxRecDepth 20000 in
theorem k_X0_seekWayFrom_136 (call : Nat → List Value → qH → qR) (l0 : Nat) (l1 : Value) (l2 : Int32) (l3 : Int32) (l4 : Int32) (l5 : Int32) (l6 : Value) (s0 : Int32) (h : qH) : q_run qm_X0_seekWayFrom call 136 [.ref l0, l1, .int l2, .int l3, .int l4, .int l5, l6] [.int s0] h =
  if q_cmp .ne l5 (0 : Int32) = true then
    q_run qm_X0_seekWayFrom call 155 [.ref l0, l1, .int l2, .int l3, .int l4, .int l5, .int s0] [.int (l2 - l4), .ref l0] h
  else
    q_run qm_X0_seekWayFrom call 155 [.ref l0, l1, .int l2, .int l3, .int l4, .int l5, .int s0] [.int (l2 + l4), .ref l0] h := by
  refine (q_cut_eq _ _ [0, 61, 64, 91, 136, 155, 174, 180] 200 _ _ _ _).trans ?_
  rfl
set_option maxRecDepth 20000 in
theorem k_X0_seekWayFrom_155 (call : Nat → List Value → qH → qR) (l0 : Nat) (l1 : Value) (l2 : Int32) (l3 : Int32) (l4 : Int32) (l5 : Int32) (l6 : Int32) (s0 : Nat) (s1 : Int32) (h : qH) : q_run qm_X0_seekWayFrom call 155 [.ref l0, l1, .int l2, .int l3, .int l4, .int l5, .int l6] [.int s1, .ref s0] h =
  q_gR h (.ref l0) 0 4 fun r1 =>
  q_ald h (.ref r1) 0 l2 fun x2 =>
  q_rcv h (.ref s0) 0 (q_rV (call 8 [.ref s0, .int s1, .int (x2 + (1 : Int32)), .int l6] h) q_t0 fun h3 =>
  q_run qm_X0_seekWayFrom call 91 [.ref l0, l1, .int l2, .int l3, .int l4, .int (l5 + (1 : Int32)), .int l6] [] h3) := by
  refine (q_cut_eq _ _ [0, 61, 64, 91, 136, 155, 174, 180] 200 _ _ _ _).trans ?_
  rfl
set_option maxRecDepth 20000 in
theorem k_X0_seekWayFrom_174 (call : Nat → List Value → qH → qR) (l0 : Nat) (l1 : Value) (l2 : Int32) (l3 : Int32) (l4 : Value) (l5 : Value) (l6 : Value) (h : qH) : q_run qm_X0_seekWayFrom call 174 [.ref l0, l1, .int l2, .int l3, l4, l5, l6] [] h =
  q_run qm_X0_seekWayFrom call 64 [.ref l0, l1, .int l2, .int (l3 + (1 : Int32)), l4, l5, l6] [] h := by
  refine (q_cut_eq _ _ [0, 61, 64, 91, 136, 155, 174, 180] 200 _ _ _ _).trans ?_
  rfl
set_option maxRecDepth 20000 in
theorem k_X0_seekWayFrom_180 (call : Nat → List Value → qH → qR) (l0 : Value) (l1 : Value) (l2 : Value) (l3 : Value) (l4 : Value) (l5 : Value) (l6 : Value) (h : qH) : q_run qm_X0_seekWayFrom call 180 [l0, l1, l2, l3, l4, l5, l6] [] h =
  some (.inl none, h) := by
  refine (q_cut_eq _ _ [0, 61, 64, 91, 136, 155, 174, 180] 200 _ _ _ _).trans ?_
  rfl
set_option maxRecDepth 20000 in
theorem k_X0_goOn_0 (call : Nat → List Value → qH → qR) (l0 : Nat) (l1 : Int32) (l2 : Int32) (l3 : Int32) (h : qH) : q_run qm_X0_goOn call 0 [.ref l0, .int l1, .int l2, .int l3] [] h =
  if q_cmp .lt l1 (0 : Int32) = true then
    q_run qm_X0_goOn call 15 [.ref l0, .int l1, .int l2, .int l3] [] h
  else
    q_gR h (.ref l0) 0 0 fun r1 =>
    q_gI h (.ref r1) 6 3 fun x2 =>
    if q_cmp .lt l1 x2 = true then
      q_gR h (.ref l0) 0 0 fun r3 =>
      q_rcv h (.ref r3) 6 (q_rI (call 78 [.ref r3, .int l1] h) q_t0 fun x5 h4 =>
      if q_cmp .ne x5 (-1 : Int32) = true then
        q_pV h4 (.ref l0) 0 9 (.int l2) fun h6 =>
        q_pV h6 (.ref l0) 0 10 (.int l3) fun h7 =>
        q_run qm_X0_goOn call 48 [.ref l0, .int l1, .int l2, .int l3] [] h7
      else
        q_rcv h4 (.ref l0) 0 (q_rV (call 6 [.ref l0, .int l1, .int l2, .int l3] h4) q_t0 fun h8 =>
        q_run qm_X0_goOn call 48 [.ref l0, .int l1, .int l2, .int l3] [] h8))
    else
      q_run qm_X0_goOn call 15 [.ref l0, .int l1, .int l2, .int l3] [] h := by
  refine (q_cut_eq _ _ [0, 15, 48] 200 _ _ _ _).trans ?_
  rfl
set_option maxRecDepth 20000 in
theorem k_X0_goOn_15 (call : Nat → List Value → qH → qR) (l0 : Value) (l1 : Value) (l2 : Value) (l3 : Value) (h : qH) : q_run qm_X0_goOn call 15 [l0, l1, l2, l3] [] h =
  some (.inl none, h) := by
  refine (q_cut_eq _ _ [0, 15, 48] 200 _ _ _ _).trans ?_
  rfl
set_option maxRecDepth 20000 in
theorem k_X0_goOn_48 (call : Nat → List Value → qH → qR) (l0 : Value) (l1 : Value) (l2 : Value) (l3 : Value) (h : qH) : q_run qm_X0_goOn call 48 [l0, l1, l2, l3] [] h =
  some (.inl none, h) := by
  refine (q_cut_eq _ _ [0, 15, 48] 200 _ _ _ _).trans ?_
  rfl
set_option maxRecDepth 20000 in
theorem k_X0_weighThumb_0 (call : Nat → List Value → qH → qR) (l0 : Nat) (l1 : Int32) (l2 : Int32) (l3 : Int32) (l4 : Int32) (h : qH) : q_run qm_X0_weighThumb call 0 [.ref l0, .int l1, .int l2, .int l3, .int l4, q_junk, q_junk] [] h =
  q_rcv h (.ref l0) 0 (q_rI (call 10 [.ref l0, .int l1, .int (if (l2 - (1 : Int32)) < (1 : Int32) then (1 : Int32) else (l2 - (1 : Int32))), .int l4] h) q_t0 fun x2 h1 =>
  q_rcv h1 (.ref l0) 0 (q_rI (call 10 [.ref l0, .int l1, .int (if (9 : Int32) < (l2 + (1 : Int32)) then (9 : Int32) else (l2 + (1 : Int32))), .int l4] h1) q_t0 fun x4 h3 =>
  q_rcv h3 (.ref l0) 0 (q_rI (call 10 [.ref l0, .int l1, .int l2, .int l4] h3) q_t0 fun x6 h5 =>
  q_pV h5 (.ref l0) 0 11 (.int ((((2 : Int32) * l3) * x6) + (((16 : Int32) - l3) * (x2 + x4)))) fun h7 =>
  q_pV h7 (.ref l0) 0 12 (.int (32 : Int32)) fun h8 =>
  q_run qm_X0_weighThumb call 66 [.ref l0, .int l1, .int l2, .int l3, .int l4, .int x2, .int x4] [] h8))) := by
  refine (q_cut_eq _ _ [0, 66, 106] 200 _ _ _ _).trans ?_
  rfl
set_option maxRecDepth 20000 in
theorem k_X0_weighThumb_66 (call : Nat → List Value → qH → qR) (l0 : Nat) (l1 : Value) (l2 : Value) (l3 : Value) (l4 : Value) (l5 : Value) (l6 : Value) (h : qH) : q_run qm_X0_weighThumb call 66 [.ref l0, l1, l2, l3, l4, l5, l6] [] h =
  q_gI h (.ref l0) 0 12 fun x1 =>
  if q_cmp .le x1 (1 : Int32) = true then
    q_run qm_X0_weighThumb call 106 [.ref l0, l1, l2, l3, l4, l5, l6] [] h
  else
    q_gI h (.ref l0) 0 11 fun x2 =>
    if q_cmp .ne (x2 - x2 / (2 : Int32) * (2 : Int32)) (0 : Int32) = true then
      q_run qm_X0_weighThumb call 106 [.ref l0, l1, l2, l3, l4, l5, l6] [] h
    else
      q_gI h (.ref l0) 0 11 fun x3 =>
      q_pV h (.ref l0) 0 11 (.int (x3 / (2 : Int32))) fun h4 =>
      q_gI h4 (.ref l0) 0 12 fun x5 =>
      q_pV h4 (.ref l0) 0 12 (.int (x5 / (2 : Int32))) fun h6 =>
      q_run qm_X0_weighThumb call 66 [.ref l0, l1, l2, l3, l4, l5, l6] [] h6 := by
  refine (q_cut_eq _ _ [0, 66, 106] 200 _ _ _ _).trans ?_
  rfl
set_option maxRecDepth 20000 in
theorem k_X0_weighThumb_106 (call : Nat → List Value → qH → qR) (l0 : Value) (l1 : Value) (l2 : Value) (l3 : Value) (l4 : Value) (l5 : Value) (l6 : Value) (h : qH) : q_run qm_X0_weighThumb call 106 [l0, l1, l2, l3, l4, l5, l6] [] h =
  some (.inl none, h) := by
  refine (q_cut_eq _ _ [0, 66, 106] 200 _ _ _ _).trans ?_
  rfl
set_option maxRecDepth 20000 in
theorem k_X0_worthOf_0 (call : Nat → List Value → qH → qR) (l0 : Nat) (l1 : Int32) (l2 : Int32) (l3 : Int32) (h : qH) : q_run qm_X0_worthOf call 0 [.ref l0, .int l1, .int l2, .int l3, q_junk] [] h =
  q_rcv h (.ref l0) 0 (q_rI (call 2 [.ref l0, .int l1, .int l2, .int (0 : Int32)] h) q_t0 fun x2 h1 =>
  if q_cmp .eq l3 (0 : Int32) = true then
    q_run qm_X0_worthOf call 24 [.ref l0, .int l1, .int l2, .int l3, .int x2] [.int (if (1 : Int32) < x2 then (1 : Int32) else x2)] h1
  else
    q_run qm_X0_worthOf call 24 [.ref l0, .int l1, .int l2, .int l3, .int x2] [.int x2] h1) := by
  refine (q_cut_eq _ _ [0, 24] 200 _ _ _ _).trans ?_
  rfl
set_option maxRecDepth 20000 in
theorem k_X0_worthOf_24 (call : Nat → List Value → qH → qR) (l0 : Value) (l1 : Value) (l2 : Value) (l3 : Value) (l4 : Value) (s0 : Int32) (h : qH) : q_run qm_X0_worthOf call 24 [l0, l1, l2, l3, l4] [.int s0] h =
  some (.inl (some (.int s0)), h) := by
  refine (q_cut_eq _ _ [0, 24] 200 _ _ _ _).trans ?_
  rfl
set_option maxRecDepth 20000 in
theorem k_X0_giveCups_0 (call : Nat → List Value → qH → qR) (l0 : Nat) (h : qH) : q_run qm_X0_giveCups call 0 [.ref l0, q_junk, q_junk, q_junk, q_junk] [] h =
  q_rcv h (.ref l0) 0 (q_rV (call 12 [.ref l0] h) q_t0 fun h1 =>
  q_rcv h1 (.ref l0) 0 (q_rI (call 14 [.ref l0, .int (0 : Int32), .int (0 : Int32)] h1) q_t0 fun x4 h3 =>
  q_run qm_X0_giveCups call 18 [.ref l0, .int x4, .int x4, .int (0 : Int32), .int (0 : Int32)] [] h3)) := by
  refine (q_cut_eq _ _ [0, 18, 81] 200 _ _ _ _).trans ?_
  rfl
set_option maxRecDepth 20000 in
theorem k_X0_giveCups_18 (call : Nat → List Value → qH → qR) (l0 : Nat) (l1 : Int32) (l2 : Int32) (l3 : Int32) (l4 : Int32) (h : qH) : q_run qm_X0_giveCups call 18 [.ref l0, .int l1, .int l2, .int l3, .int l4] [] h =
  q_gR h (.ref l0) 0 0 fun r1 =>
  q_gI h (.ref r1) 6 2 fun x2 =>
  if q_cmp .ge l4 x2 = true then
    some (.inl (some (.int l1)), h)
  else
    q_gR h (.ref l0) 0 7 fun r3 =>
    q_rcv h (.ref l0) 0 (q_rI (call 13 [.ref l0, .int l4, .int l3, .int l2] h) q_t0 fun x5 h4 =>
    q_ast h4 (.ref r3) 0 l4 x5 fun h6 =>
    q_gR h6 (.ref l0) 0 7 fun r7 =>
    q_ald h6 (.ref r7) 0 l4 fun x8 =>
    if q_cmp .eq x8 (-1 : Int32) = true then
      q_run qm_X0_giveCups call 81 [.ref l0, .int l1, .int l2, .int l3, .int l4] [] h6
    else
      q_gR h6 (.ref l0) 0 7 fun r9 =>
      q_ald h6 (.ref r9) 0 l4 fun x10 =>
      q_gR h6 (.ref l0) 0 0 fun r11 =>
      q_gR h6 (.ref r11) 6 10 fun r12 =>
      q_ald h6 (.ref r12) 0 l4 fun x13 =>
      q_run qm_X0_giveCups call 81 [.ref l0, .int l1, .int (l2 - x13), .int (l3 ||| ((1 : Int32) <<< (x10 &&& 31))), .int l4] [] h6) := by
  refine (q_cut_eq _ _ [0, 18, 81] 200 _ _ _ _).trans ?_
  rfl
set_option maxRecDepth 20000 in
theorem k_X0_giveCups_81 (call : Nat → List Value → qH → qR) (l0 : Nat) (l1 : Int32) (l2 : Int32) (l3 : Int32) (l4 : Int32) (h : qH) : q_run qm_X0_giveCups call 81 [.ref l0, .int l1, .int l2, .int l3, .int l4] [] h =
  q_run qm_X0_giveCups call 18 [.ref l0, .int l1, .int l2, .int l3, .int (l4 + (1 : Int32))] [] h := by
  refine (q_cut_eq _ _ [0, 18, 81] 200 _ _ _ _).trans ?_
  rfl
set_option maxRecDepth 20000 in
theorem k_X0_findComers_0 (call : Nat → List Value → qH → qR) (l0 : Nat) (h : qH) : q_run qm_X0_findComers call 0 [.ref l0, q_junk, q_junk, q_junk, q_junk] [] h =
  q_run qm_X0_findComers call 2 [.ref l0, .int (0 : Int32), q_junk, q_junk, q_junk] [] h := by
  refine (q_cut_eq _ _ [0, 2, 28, 41, 49, 82] 200 _ _ _ _).trans ?_
  rfl
set_option maxRecDepth 20000 in
theorem k_X0_findComers_2 (call : Nat → List Value → qH → qR) (l0 : Nat) (l1 : Int32) (l2 : Value) (l3 : Value) (l4 : Value) (h : qH) : q_run qm_X0_findComers call 2 [.ref l0, .int l1, l2, l3, l4] [] h =
  q_gR h (.ref l0) 0 0 fun r1 =>
  q_gI h (.ref r1) 6 2 fun x2 =>
  if q_cmp .ge l1 x2 = true then
    q_run qm_X0_findComers call 28 [.ref l0, .int (0 : Int32), l2, l3, l4] [] h
  else
    q_gR h (.ref l0) 0 6 fun r3 =>
    q_ast h (.ref r3) 0 l1 (0 : Int32) fun h4 =>
    q_run qm_X0_findComers call 2 [.ref l0, .int (l1 + (1 : Int32)), l2, l3, l4] [] h4 := by
  refine (q_cut_eq _ _ [0, 2, 28, 41, 49, 82] 200 _ _ _ _).trans ?_
  rfl
set_option maxRecDepth 20000 in
theorem k_X0_findComers_28 (call : Nat → List Value → qH → qR) (l0 : Nat) (l1 : Int32) (l2 : Value) (l3 : Value) (l4 : Value) (h : qH) : q_run qm_X0_findComers call 28 [.ref l0, .int l1, l2, l3, l4] [] h =
  q_gR h (.ref l0) 0 0 fun r1 =>
  q_gI h (.ref r1) 6 1 fun x2 =>
  if q_cmp .ge l1 x2 = true then
    some (.inl none, h)
  else
    q_run qm_X0_findComers call 41 [.ref l0, .int l1, .int (1 : Int32), l3, l4] [] h := by
  refine (q_cut_eq _ _ [0, 2, 28, 41, 49, 82] 200 _ _ _ _).trans ?_
  rfl
set_option maxRecDepth 20000 in
theorem k_X0_findComers_41 (call : Nat → List Value → qH → qR) (l0 : Nat) (l1 : Int32) (l2 : Int32) (l3 : Value) (l4 : Value) (h : qH) : q_run qm_X0_findComers call 41 [.ref l0, .int l1, .int l2, l3, l4] [] h =
  if q_cmp .gt l2 (9 : Int32) = true then
    q_run qm_X0_findComers call 28 [.ref l0, .int (l1 + (1 : Int32)), .int l2, l3, l4] [] h
  else
    q_run qm_X0_findComers call 49 [.ref l0, .int l1, .int l2, .int (0 : Int32), l4] [] h := by
  refine (q_cut_eq _ _ [0, 2, 28, 41, 49, 82] 200 _ _ _ _).trans ?_
  rfl
set_option maxRecDepth 20000 in
theorem k_X0_findComers_49 (call : Nat → List Value → qH → qR) (l0 : Nat) (l1 : Int32) (l2 : Int32) (l3 : Int32) (l4 : Value) (h : qH) : q_run qm_X0_findComers call 49 [.ref l0, .int l1, .int l2, .int l3, l4] [] h =
  if q_cmp .gt l3 (1 : Int32) = true then
    q_run qm_X0_findComers call 41 [.ref l0, .int l1, .int (l2 + (1 : Int32)), .int l3, l4] [] h
  else
    q_rcv h (.ref l0) 0 (q_rI (call 1 [.ref l0, .int l1, .int l2, .int l3] h) q_t0 fun x2 h1 =>
    if q_cmp .eq x2 (-1 : Int32) = true then
      q_run qm_X0_findComers call 82 [.ref l0, .int l1, .int l2, .int l3, .int x2] [] h1
    else
      q_gR h1 (.ref l0) 0 6 fun r3 =>
      q_ald h1 (.ref r3) 0 x2 fun x4 =>
      q_ast h1 (.ref r3) 0 x2 (x4 ||| ((1 : Int32) <<< (l1 &&& 31))) fun h5 =>
      q_run qm_X0_findComers call 82 [.ref l0, .int l1, .int l2, .int l3, .int x2] [] h5) := by
  refine (q_cut_eq _ _ [0, 2, 28, 41, 49, 82] 200 _ _ _ _).trans ?_
  rfl
set_option maxRecDepth 20000 in
theorem k_X0_findComers_82 (call : Nat → List Value → qH → qR) (l0 : Nat) (l1 : Int32) (l2 : Int32) (l3 : Int32) (l4 : Value) (h : qH) : q_run qm_X0_findComers call 82 [.ref l0, .int l1, .int l2, .int l3, l4] [] h =
  q_run qm_X0_findComers call 49 [.ref l0, .int l1, .int l2, .int (l3 + (1 : Int32)), l4] [] h := by
  refine (q_cut_eq _ _ [0, 2, 28, 41, 49, 82] 200 _ _ _ _).trans ?_
  rfl
set_option maxRecDepth 20000 in
theorem k_X0_firstFor_0 (call : Nat → List Value → qH → qR) (l0 : Nat) (l1 : Int32) (l2 : Int32) (l3 : Int32) (h : qH) : q_run qm_X0_firstFor call 0 [.ref l0, .int l1, .int l2, .int l3, q_junk, q_junk] [] h =
  q_run qm_X0_firstFor call 3 [.ref l0, .int l1, .int l2, .int l3, .int (0 : Int32), q_junk] [] h := by
  refine (q_cut_eq _ _ [0, 3, 65] 200 _ _ _ _).trans ?_
  rfl
set_option maxRecDepth 20000 in
theorem k_X0_firstFor_3 (call : Nat → List Value → qH → qR) (l0 : Nat) (l1 : Int32) (l2 : Int32) (l3 : Int32) (l4 : Int32) (l5 : Value) (h : qH) : q_run qm_X0_firstFor call 3 [.ref l0, .int l1, .int l2, .int l3, .int l4, l5] [] h =
  q_gR h (.ref l0) 0 0 fun r1 =>
  q_gI h (.ref r1) 6 1 fun x2 =>
  if q_cmp .ge l4 x2 = true then
    some (.inl (some (.int (-1 : Int32))), h)
  else
    q_gR h (.ref l0) 0 6 fun r3 =>
    q_ald h (.ref r3) 0 l1 fun x4 =>
    if q_cmp .eq ((x4 &&& (l2 ^^^ (-1 : Int32))) &&& ((1 : Int32) <<< (l4 &&& 31))) (0 : Int32) = true then
      q_run qm_X0_firstFor call 65 [.ref l0, .int l1, .int l2, .int l3, .int l4, .int ((1 : Int32) <<< (l4 &&& 31))] [] h
    else
      q_gR h (.ref l0) 0 0 fun r5 =>
      q_gR h (.ref r5) 6 10 fun r6 =>
      q_ald h (.ref r6) 0 l1 fun x7 =>
      q_rcv h (.ref l0) 0 (q_rI (call 14 [.ref l0, .int (l1 + (1 : Int32)), .int (l2 ||| ((1 : Int32) <<< (l4 &&& 31)))] h) q_t0 fun x9 h8 =>
      if q_cmp .ne (x7 + x9) l3 = true then
        q_run qm_X0_firstFor call 65 [.ref l0, .int l1, .int l2, .int l3, .int l4, .int ((1 : Int32) <<< (l4 &&& 31))] [] h8
      else
        some (.inl (some (.int l4)), h8)) := by
  refine (q_cut_eq _ _ [0, 3, 65] 200 _ _ _ _).trans ?_
  rfl
set_option maxRecDepth 20000 in
theorem k_X0_firstFor_65 (call : Nat → List Value → qH → qR) (l0 : Nat) (l1 : Int32) (l2 : Int32) (l3 : Int32) (l4 : Int32) (l5 : Value) (h : qH) : q_run qm_X0_firstFor call 65 [.ref l0, .int l1, .int l2, .int l3, .int l4, l5] [] h =
  q_run qm_X0_firstFor call 3 [.ref l0, .int l1, .int l2, .int l3, .int (l4 + (1 : Int32)), l5] [] h := by
  refine (q_cut_eq _ _ [0, 3, 65] 200 _ _ _ _).trans ?_
  rfl
set_option maxRecDepth 20000 in
theorem k_X0_bestFrom_0 (call : Nat → List Value → qH → qR) (l0 : Nat) (l1 : Int32) (l2 : Int32) (h : qH) : q_run qm_X0_bestFrom call 0 [.ref l0, .int l1, .int l2, q_junk, q_junk, q_junk] [] h =
  q_run qm_X0_bestFrom call 5 [.ref l0, .int l1, .int l2, .int (0 : Int32), .int (0 : Int32), q_junk] [] h := by
  refine (q_cut_eq _ _ [0, 5, 57] 200 _ _ _ _).trans ?_
  rfl
set_option maxRecDepth 20000 in
theorem k_X0_bestFrom_5 (call : Nat → List Value → qH → qR) (l0 : Nat) (l1 : Int32) (l2 : Int32) (l3 : Int32) (l4 : Int32) (l5 : Value) (h : qH) : q_run qm_X0_bestFrom call 5 [.ref l0, .int l1, .int l2, .int l3, .int l4, l5] [] h =
  q_gR h (.ref l0) 0 0 fun r1 =>
  q_gI h (.ref r1) 6 2 fun x2 =>
  if q_cmp .ge l4 ((1 : Int32) <<< (x2 &&& 31)) = true then
    some (.inl (some (.int l3)), h)
  else
    if q_cmp .ne (l4 &&& (((1 : Int32) <<< (l1 &&& 31)) - (1 : Int32))) (0 : Int32) = true then
      q_run qm_X0_bestFrom call 57 [.ref l0, .int l1, .int l2, .int l3, .int l4, l5] [] h
    else
      q_rcv h (.ref l0) 0 (q_rI (call 15 [.ref l0, .int l4] h) q_t0 fun x4 h3 =>
      if q_cmp .le x4 l3 = true then
        q_run qm_X0_bestFrom call 57 [.ref l0, .int l1, .int l2, .int l3, .int l4, .int x4] [] h3
      else
        q_rcv h3 (.ref l0) 0 (q_rI (call 16 [.ref l0, .int l4, .int l2] h3) q_t0 fun x6 h5 =>
        if q_cmp .eq x6 (0 : Int32) = true then
          q_run qm_X0_bestFrom call 57 [.ref l0, .int l1, .int l2, .int l3, .int l4, .int x4] [] h5
        else
          q_run qm_X0_bestFrom call 57 [.ref l0, .int l1, .int l2, .int x4, .int l4, .int x4] [] h5)) := by
  refine (q_cut_eq _ _ [0, 5, 57] 200 _ _ _ _).trans ?_
  rfl
set_option maxRecDepth 20000 in
theorem k_X0_bestFrom_57 (call : Nat → List Value → qH → qR) (l0 : Nat) (l1 : Int32) (l2 : Int32) (l3 : Int32) (l4 : Int32) (l5 : Value) (h : qH) : q_run qm_X0_bestFrom call 57 [.ref l0, .int l1, .int l2, .int l3, .int l4, l5] [] h =
  q_run qm_X0_bestFrom call 5 [.ref l0, .int l1, .int l2, .int l3, .int (l4 + (1 : Int32)), l5] [] h := by
  refine (q_cut_eq _ _ [0, 5, 57] 200 _ _ _ _).trans ?_
  rfl
set_option maxRecDepth 20000 in
theorem k_X0_paysOf_0 (call : Nat → List Value → qH → qR) (l0 : Nat) (l1 : Int32) (h : qH) : q_run qm_X0_paysOf call 0 [.ref l0, .int l1, q_junk, q_junk] [] h =
  q_run qm_X0_paysOf call 4 [.ref l0, .int l1, .int (0 : Int32), .int (0 : Int32)] [] h := by
  refine (q_cut_eq _ _ [0, 4] 200 _ _ _ _).trans ?_
  rfl
set_option maxRecDepth 20000 in
theorem k_X0_paysOf_4 (call : Nat → List Value → qH → qR) (l0 : Nat) (l1 : Int32) (l2 : Int32) (l3 : Int32) (h : qH) : q_run qm_X0_paysOf call 4 [.ref l0, .int l1, .int l2, .int l3] [] h =
  q_gR h (.ref l0) 0 0 fun r1 =>
  q_gI h (.ref r1) 6 2 fun x2 =>
  if q_cmp .ge l3 x2 = true then
    some (.inl (some (.int l2)), h)
  else
    q_gR h (.ref l0) 0 0 fun r3 =>
    q_gR h (.ref r3) 6 10 fun r4 =>
    q_ald h (.ref r4) 0 l3 fun x5 =>
    q_run qm_X0_paysOf call 4 [.ref l0, .int l1, .int (l2 + (((l1 >>> (l3 &&& 31)) &&& (1 : Int32)) * x5)), .int (l3 + (1 : Int32))] [] h := by
  refine (q_cut_eq _ _ [0, 4] 200 _ _ _ _).trans ?_
  rfl
set_option maxRecDepth 20000 in
theorem k_X0_canAllBeGiven_0 (call : Nat → List Value → qH → qR) (l0 : Nat) (l1 : Int32) (l2 : Int32) (h : qH) : q_run qm_X0_canAllBeGiven call 0 [.ref l0, .int l1, .int l2, q_junk] [] h =
  q_run qm_X0_canAllBeGiven call 2 [.ref l0, .int l1, .int l2, .int (1 : Int32)] [] h := by
  refine (q_cut_eq _ _ [0, 2, 36] 200 _ _ _ _).trans ?_
  rfl
set_option maxRecDepth 20000 in
theorem k_X0_canAllBeGiven_2 (call : Nat → List Value → qH → qR) (l0 : Nat) (l1 : Int32) (l2 : Int32) (l3 : Int32) (h : qH) : q_run qm_X0_canAllBeGiven call 2 [.ref l0, .int l1, .int l2, .int l3] [] h =
  if q_cmp .gt l3 l1 = true then
    q_boo true (1 : Int32) fun z => some (.inl (some (.int z)), h)
  else
    if q_cmp .ne (l3 &&& (l1 ^^^ (-1 : Int32))) (0 : Int32) = true then
      q_run qm_X0_canAllBeGiven call 36 [.ref l0, .int l1, .int l2, .int l3] [] h
    else
      q_rcv h (.ref l0) 0 (q_rI (call 17 [.ref l0, .int l3] h) q_t0 fun x2 h1 =>
      q_rI (call 310 [.int (x2 &&& (l2 ^^^ (-1 : Int32)))] h1) q_t0 fun x4 h3 =>
      q_rI (call 310 [.int l3] h3) q_t0 fun x6 h5 =>
      if q_cmp .ge x4 x6 = true then
        q_run qm_X0_canAllBeGiven call 36 [.ref l0, .int l1, .int l2, .int l3] [] h5
      else
        q_boo true (0 : Int32) fun z => some (.inl (some (.int z)), h5)) := by
  refine (q_cut_eq _ _ [0, 2, 36] 200 _ _ _ _).trans ?_
  rfl
set_option maxRecDepth 20000 in
theorem k_X0_canAllBeGiven_36 (call : Nat → List Value → qH → qR) (l0 : Nat) (l1 : Int32) (l2 : Int32) (l3 : Int32) (h : qH) : q_run qm_X0_canAllBeGiven call 36 [.ref l0, .int l1, .int l2, .int l3] [] h =
  q_run qm_X0_canAllBeGiven call 2 [.ref l0, .int l1, .int l2, .int (l3 + (1 : Int32))] [] h := by
  refine (q_cut_eq _ _ [0, 2, 36] 200 _ _ _ _).trans ?_
  rfl
set_option maxRecDepth 20000 in
theorem k_X0_comersOf_0 (call : Nat → List Value → qH → qR) (l0 : Nat) (l1 : Int32) (h : qH) : q_run qm_X0_comersOf call 0 [.ref l0, .int l1, q_junk, q_junk] [] h =
  q_run qm_X0_comersOf call 4 [.ref l0, .int l1, .int (0 : Int32), .int (0 : Int32)] [] h := by
  refine (q_cut_eq _ _ [0, 4, 33] 200 _ _ _ _).trans ?_
  rfl
set_option maxRecDepth 20000 in
theorem k_X0_comersOf_4 (call : Nat → List Value → qH → qR) (l0 : Nat) (l1 : Int32) (l2 : Int32) (l3 : Int32) (h : qH) : q_run qm_X0_comersOf call 4 [.ref l0, .int l1, .int l2, .int l3] [] h =
  q_gR h (.ref l0) 0 0 fun r1 =>
  q_gI h (.ref r1) 6 2 fun x2 =>
  if q_cmp .ge l3 x2 = true then
    some (.inl (some (.int l2)), h)
  else
    if q_cmp .ne ((l1 >>> (l3 &&& 31)) &&& (1 : Int32)) (1 : Int32) = true then
      q_run qm_X0_comersOf call 33 [.ref l0, .int l1, .int l2, .int l3] [] h
    else
      q_gR h (.ref l0) 0 6 fun r3 =>
      q_ald h (.ref r3) 0 l3 fun x4 =>
      q_run qm_X0_comersOf call 33 [.ref l0, .int l1, .int (l2 ||| x4), .int l3] [] h := by
  refine (q_cut_eq _ _ [0, 4, 33] 200 _ _ _ _).trans ?_
  rfl
set_option maxRecDepth 20000 in
theorem k_X0_comersOf_33 (call : Nat → List Value → qH → qR) (l0 : Nat) (l1 : Int32) (l2 : Int32) (l3 : Int32) (h : qH) : q_run qm_X0_comersOf call 33 [.ref l0, .int l1, .int l2, .int l3] [] h =
  q_run qm_X0_comersOf call 4 [.ref l0, .int l1, .int l2, .int (l3 + (1 : Int32))] [] h := by
  refine (q_cut_eq _ _ [0, 4, 33] 200 _ _ _ _).trans ?_
  rfl
set_option maxRecDepth 20000 in
theorem k_X2_init_0 (call : Nat → List Value → qH → qR) (l0 : Nat) (l1 : Nat) (l2 : Nat) (h : qH) : q_run qm_X2_init call 0 [.ref l0, .ref l1, .ref l2] [] h =
  q_nar h 0 (10 : Int32) fun r1 h2 =>
  q_pV h2 (.ref l0) 2 2 (.ref r1) fun h3 =>
  q_nar h3 0 (10 : Int32) fun r4 h5 =>
  q_pV h5 (.ref l0) 2 3 (.ref r4) fun h6 =>
  q_nar h6 0 (100 : Int32) fun r7 h8 =>
  q_pV h8 (.ref l0) 2 4 (.ref r7) fun h9 =>
  q_run qm_X2_init call 28 [.ref l0, .ref l1, .ref l2] [] h9 := by
  refine (q_cut_eq _ _ [0, 28] 200 _ _ _ _).trans ?_
  rfl
set_option maxRecDepth 20000 in
theorem k_X2_init_28 (call : Nat → List Value → qH → qR) (l0 : Nat) (l1 : Nat) (l2 : Nat) (h : qH) : q_run qm_X2_init call 28 [.ref l0, .ref l1, .ref l2] [] h =
  q_nar h 0 (61 : Int32) fun r1 h2 =>
  q_pV h2 (.ref l0) 2 5 (.ref r1) fun h3 =>
  q_pV h3 (.ref l0) 2 0 (.ref l1) fun h4 =>
  q_pV h4 (.ref l0) 2 1 (.ref l2) fun h5 =>
  q_rcv h5 (.ref l0) 2 (q_rV (call 46 [.ref l0] h5) q_t0 fun h6 =>
  some (.inl none, h6)) := by
  refine (q_cut_eq _ _ [0, 28] 200 _ _ _ _).trans ?_
  rfl
set_option maxRecDepth 20000 in
theorem k_X2_wipe_0 (call : Nat → List Value → qH → qR) (l0 : Nat) (h : qH) : q_run qm_X2_wipe call 0 [.ref l0, q_junk] [] h =
  q_pV h (.ref l0) 2 6 (.int (0 : Int32)) fun h1 =>
  q_run qm_X2_wipe call 7 [.ref l0, .int (0 : Int32)] [] h1 := by
  refine (q_cut_eq _ _ [0, 7] 200 _ _ _ _).trans ?_
  rfl
set_option maxRecDepth 20000 in
theorem k_X2_wipe_7 (call : Nat → List Value → qH → qR) (l0 : Nat) (l1 : Int32) (h : qH) : q_run qm_X2_wipe call 7 [.ref l0, .int l1] [] h =
  if q_cmp .gt l1 (9 : Int32) = true then
    some (.inl none, h)
  else
    q_gR h (.ref l0) 2 2 fun r1 =>
    q_ast h (.ref r1) 0 l1 (-1 : Int32) fun h2 =>
    q_run qm_X2_wipe call 7 [.ref l0, .int (l1 + (1 : Int32))] [] h2 := by
  refine (q_cut_eq _ _ [0, 7] 200 _ _ _ _).trans ?_
  rfl
set_option maxRecDepth 20000 in
theorem k_X2_readFrom_0 (call : Nat → List Value → qH → qR) (l0 : Nat) (l1 : Nat) (h : qH) : q_run qm_X2_readFrom call 0 [.ref l0, .ref l1, q_junk, q_junk] [] h =
  q_run qm_X2_readFrom call 4 [.ref l0, .ref l1, .int (0 : Int32), .int (0 : Int32)] [] h := by
  refine (q_cut_eq _ _ [0, 4, 25, 58] 200 _ _ _ _).trans ?_
  rfl
set_option maxRecDepth 20000 in
theorem k_X2_readFrom_4 (call : Nat → List Value → qH → qR) (l0 : Nat) (l1 : Nat) (l2 : Int32) (l3 : Int32) (h : qH) : q_run qm_X2_readFrom call 4 [.ref l0, .ref l1, .int l2, .int l3] [] h =
  if q_cmp .gt l3 (9 : Int32) = true then
    q_run qm_X2_readFrom call 25 [.ref l0, .ref l1, .int l2, .int (0 : Int32)] [] h
  else
    q_gR h (.ref l0) 2 3 fun r1 =>
    q_ast h (.ref r1) 0 l3 (-1 : Int32) fun h2 =>
    q_run qm_X2_readFrom call 4 [.ref l0, .ref l1, .int l2, .int (l3 + (1 : Int32))] [] h2 := by
  refine (q_cut_eq _ _ [0, 4, 25, 58] 200 _ _ _ _).trans ?_
  rfl
set_option maxRecDepth 20000 in
theorem k_X2_readFrom_25 (call : Nat → List Value → qH → qR) (l0 : Nat) (l1 : Nat) (l2 : Int32) (l3 : Int32) (h : qH) : q_run qm_X2_readFrom call 25 [.ref l0, .ref l1, .int l2, .int l3] [] h =
  if q_cmp .ge l3 (100 : Int32) = true then
    q_run qm_X2_readFrom call 58 [.ref l0, .ref l1, .int l2, .int l3] [] h
  else
    q_rcv h (.ref l1) 9 (q_rI (call 105 [.ref l1] h) q_t0 fun x2 h1 =>
    if q_cmp .eq x2 (-1 : Int32) = true then
      q_run qm_X2_readFrom call 58 [.ref l0, .ref l1, .int l2, .int l3] [] h1
    else
      q_rcv h1 (.ref l0) 2 (q_rI (call 48 [.ref l0, .ref l1] h1) q_t0 fun x4 h3 =>
      if q_cmp .ne x4 (0 : Int32) = true then
        q_run qm_X2_readFrom call 25 [.ref l0, .ref l1, .int (l2 + (1 : Int32)), .int (l3 + (1 : Int32))] [] h3
      else
        q_boo true (0 : Int32) fun z => some (.inl (some (.int z)), h3))) := by
  refine (q_cut_eq _ _ [0, 4, 25, 58] 200 _ _ _ _).trans ?_
  rfl
set_option maxRecDepth 20000 in
theorem k_X2_readFrom_58 (call : Nat → List Value → qH → qR) (l0 : Nat) (l1 : Value) (l2 : Int32) (l3 : Value) (h : qH) : q_run qm_X2_readFrom call 58 [.ref l0, l1, .int l2, l3] [] h =
  q_gR h (.ref l0) 2 3 fun r1 =>
  q_gR h (.ref l0) 2 2 fun r2 =>
  q_cpy h (.ref r1) (0 : Int32) (.ref r2) (0 : Int32) (10 : Int32) fun h3 =>
  q_pV h3 (.ref l0) 2 6 (.int l2) fun h4 =>
  q_boo true (1 : Int32) fun z => some (.inl (some (.int z)), h4) := by
  refine (q_cut_eq _ _ [0, 4, 25, 58] 200 _ _ _ _).trans ?_
  rfl
set_option maxRecDepth 20000 in
theorem k_X2_readLine_0 (call : Nat → List Value → qH → qR) (l0 : Nat) (l1 : Nat) (h : qH) : q_run qm_X2_readLine call 0 [.ref l0, .ref l1, q_junk] [] h =
  q_rcv h (.ref l1) 9 (q_rI (call 108 [.ref l1, .int (1 : Int32), .int (9 : Int32)] h) q_t0 fun x2 h1 =>
  if q_cmp .ne x2 (0 : Int32) = true then
    q_gI h1 (.ref l1) 9 5 fun x3 =>
    q_gR h1 (.ref l0) 2 3 fun r4 =>
    q_ald h1 (.ref r4) 0 x3 fun x5 =>
    if q_cmp .eq x5 (-1 : Int32) = true then
      q_rcv h1 (.ref l1) 9 (q_rI (call 108 [.ref l1, .int (0 : Int32), .int (60 : Int32)] h1) q_t0 fun x7 h6 =>
      if q_cmp .ne x7 (0 : Int32) = true then
        q_gR h6 (.ref l0) 2 3 fun r8 =>
        q_gI h6 (.ref l1) 9 5 fun x9 =>
        q_ast h6 (.ref r8) 0 x3 x9 fun h10 =>
        q_rcv h10 (.ref l1) 9 (q_rI (call 107 [.ref l1, .int (59 : Int32)] h10) q_t0 fun x12 h11 =>
        q_boo true x12 fun z => some (.inl (some (.int z)), h11))
      else
        q_boo true (0 : Int32) fun z => some (.inl (some (.int z)), h6))
    else
      q_gI h1 (.ref l1) 9 4 fun x13 =>
      q_rcv h1 (.ref l1) 9 (q_rI (call 104 [.ref l1, .int (2 : Int32), .int x13] h1) q_t0 fun x15 h14 =>
      q_boo true x15 fun z => some (.inl (some (.int z)), h14))
  else
    q_boo true (0 : Int32) fun z => some (.inl (some (.int z)), h1)) := by
  refine (q_cut_eq _ _ [0] 200 _ _ _ _).trans ?_
  rfl
set_option maxRecDepth 20000 in
theorem k_X2_seekPairs_0 (call : Nat → List Value → qH → qR) (l0 : Nat) (l1 : Int32) (h : qH) : q_run qm_X2_seekPairs call 0 [.ref l0, .int l1, q_junk] [] h =
  q_gR h (.ref l0) 2 0 fun r1 =>
  q_rcv h (.ref r1) 1 (q_rV (call 33 [.ref r1, .int l1] h) q_t0 fun h2 =>
  q_pV h2 (.ref l0) 2 7 (.int (0 : Int32)) fun h4 =>
  q_run qm_X2_seekPairs call 15 [.ref l0, .int l1, .int (0 : Int32)] [] h4) := by
  refine (q_cut_eq _ _ [0, 15, 50, 74] 200 _ _ _ _).trans ?_
  rfl
set_option maxRecDepth 20000 in
theorem k_X2_seekPairs_15 (call : Nat → List Value → qH → qR) (l0 : Nat) (l1 : Int32) (l2 : Int32) (h : qH) : q_run qm_X2_seekPairs call 15 [.ref l0, .int l1, .int l2] [] h =
  if q_cmp .ge l2 (100 : Int32) = true then
    q_gI h (.ref l0) 2 7 fun x1 =>
    if q_cmp .ne x1 (0 : Int32) = true then
      q_gR h (.ref l0) 2 4 fun r2 =>
      q_ald h (.ref r2) 0 (0 : Int32) fun x3 =>
      q_run qm_X2_seekPairs call 74 [.ref l0, .int l1, .int l2] [.int x3, .ref l0] h
    else
      q_run qm_X2_seekPairs call 74 [.ref l0, .int l1, .int l2] [.int (-1 : Int32), .ref l0] h
  else
    q_rcv h (.ref l0) 2 (q_rI (call 50 [.ref l0, .int l1, .int l2] h) q_t0 fun x5 h4 =>
    if q_cmp .eq x5 (0 : Int32) = true then
      q_run qm_X2_seekPairs call 50 [.ref l0, .int l1, .int l2] [] h4
    else
      q_gR h4 (.ref l0) 2 4 fun r6 =>
      q_gI h4 (.ref l0) 2 7 fun x7 =>
      q_ast h4 (.ref r6) 0 x7 l2 fun h8 =>
      q_gI h8 (.ref l0) 2 7 fun x9 =>
      q_pV h8 (.ref l0) 2 7 (.int (x9 + (1 : Int32))) fun h10 =>
      q_run qm_X2_seekPairs call 50 [.ref l0, .int l1, .int l2] [] h10) := by
  refine (q_cut_eq _ _ [0, 15, 50, 74] 200 _ _ _ _).trans ?_
  rfl
set_option maxRecDepth 20000 in
theorem k_X2_seekPairs_50 (call : Nat → List Value → qH → qR) (l0 : Nat) (l1 : Int32) (l2 : Int32) (h : qH) : q_run qm_X2_seekPairs call 50 [.ref l0, .int l1, .int l2] [] h =
  q_run qm_X2_seekPairs call 15 [.ref l0, .int l1, .int (l2 + (1 : Int32))] [] h := by
  refine (q_cut_eq _ _ [0, 15, 50, 74] 200 _ _ _ _).trans ?_
  rfl
set_option maxRecDepth 20000 in
theorem k_X2_seekPairs_74 (call : Nat → List Value → qH → qR) (l0 : Value) (l1 : Value) (l2 : Value) (s0 : Nat) (s1 : Int32) (h : qH) : q_run qm_X2_seekPairs call 74 [l0, l1, l2] [.int s1, .ref s0] h =
  q_pV h (.ref s0) 2 8 (.int s1) fun h1 =>
  some (.inl none, h1) := by
  refine (q_cut_eq _ _ [0, 15, 50, 74] 200 _ _ _ _).trans ?_
  rfl
set_option maxRecDepth 20000 in
theorem k_X2_isFitting_0 (call : Nat → List Value → qH → qR) (l0 : Nat) (l1 : Int32) (l2 : Int32) (h : qH) : q_run qm_X2_isFitting call 0 [.ref l0, .int l1, .int l2, q_junk] [] h =
  q_run qm_X2_isFitting call 2 [.ref l0, .int l1, .int l2, .int (1 : Int32)] [] h := by
  refine (q_cut_eq _ _ [0, 2, 36] 200 _ _ _ _).trans ?_
  rfl
set_option maxRecDepth 20000 in
theorem k_X2_isFitting_2 (call : Nat → List Value → qH → qR) (l0 : Nat) (l1 : Int32) (l2 : Int32) (l3 : Int32) (h : qH) : q_run qm_X2_isFitting call 2 [.ref l0, .int l1, .int l2, .int l3] [] h =
  if q_cmp .gt l3 (9 : Int32) = true then
    q_boo true (1 : Int32) fun z => some (.inl (some (.int z)), h)
  else
    q_gR h (.ref l0) 2 2 fun r1 =>
    q_ald h (.ref r1) 0 l3 fun x2 =>
    if q_cmp .eq x2 (-1 : Int32) = true then
      q_run qm_X2_isFitting call 36 [.ref l0, .int l1, .int l2, .int l3] [] h
    else
      q_gR h (.ref l0) 2 2 fun r3 =>
      q_ald h (.ref r3) 0 l3 fun x4 =>
      q_rcv h (.ref l0) 2 (q_rI (call 51 [.ref l0, .int l1, .int l3, .int l2] h) q_t0 fun x6 h5 =>
      if q_cmp .eq x4 x6 = true then
        q_run qm_X2_isFitting call 36 [.ref l0, .int l1, .int l2, .int l3] [] h5
      else
        q_boo true (0 : Int32) fun z => some (.inl (some (.int z)), h5)) := by
  refine (q_cut_eq _ _ [0, 2, 36] 200 _ _ _ _).trans ?_
  rfl
set_option maxRecDepth 20000 in
theorem k_X2_isFitting_36 (call : Nat → List Value → qH → qR) (l0 : Nat) (l1 : Int32) (l2 : Int32) (l3 : Int32) (h : qH) : q_run qm_X2_isFitting call 36 [.ref l0, .int l1, .int l2, .int l3] [] h =
  q_run qm_X2_isFitting call 2 [.ref l0, .int l1, .int l2, .int (l3 + (1 : Int32))] [] h := by
  refine (q_cut_eq _ _ [0, 2, 36] 200 _ _ _ _).trans ?_
  rfl
set_option maxRecDepth 20000 in
theorem k_X2_flightAsIf_0 (call : Nat → List Value → qH → qR) (l0 : Nat) (l1 : Int32) (l2 : Int32) (l3 : Int32) (h : qH) : q_run qm_X2_flightAsIf call 0 [.ref l0, .int l1, .int l2, .int l3] [] h =
  q_gR h (.ref l0) 2 0 fun r1 =>
  q_rcv h (.ref r1) 1 (q_rI (call 22 [.ref r1, .int l1] h) q_t0 fun x3 h2 =>
  if q_cmp .ne x3 (0 : Int32) = true then
    q_gR h2 (.ref l0) 2 1 fun r4 =>
    q_gR h2 (.ref r4) 5 3 fun r5 =>
    q_ast h2 (.ref r5) 0 (2 : Int32) (l3 / (10 : Int32)) fun h6 =>
    q_gR h6 (.ref l0) 2 1 fun r7 =>
    q_gR h6 (.ref r7) 5 3 fun r8 =>
    q_ast h6 (.ref r8) 0 (3 : Int32) (l3 - l3 / (10 : Int32) * (10 : Int32)) fun h9 =>
    q_gR h9 (.ref l0) 2 1 fun r10 =>
    q_rcv h9 (.ref r10) 5 (q_rI (call 72 [.ref r10, .int l2] h9) q_t0 fun x12 h11 =>
    some (.inl (some (.int x12)), h11))
  else
    some (.inl (some (.int (0 : Int32))), h2)) := by
  refine (q_cut_eq _ _ [0] 200 _ _ _ _).trans ?_
  rfl
set_option maxRecDepth 20000 in
theorem k_X2_seekPress_0 (call : Nat → List Value → qH → qR) (l0 : Nat) (l1 : Int32) (h : qH) : q_run qm_X2_seekPress call 0 [.ref l0, .int l1, q_junk, q_junk] [] h =
  q_rcv h (.ref l0) 2 (q_rV (call 49 [.ref l0, .int l1] h) q_t0 fun h1 =>
  q_pV h1 (.ref l0) 2 9 (.int (-1 : Int32)) fun h3 =>
  q_pV h3 (.ref l0) 2 10 (.int (-1 : Int32)) fun h4 =>
  q_run qm_X2_seekPress call 17 [.ref l0, .int l1, .int (1 : Int32), q_junk] [] h4) := by
  refine (q_cut_eq _ _ [0, 17, 59, 69] 200 _ _ _ _).trans ?_
  rfl
set_option maxRecDepth 20000 in
theorem k_X2_seekPress_17 (call : Nat → List Value → qH → qR) (l0 : Nat) (l1 : Int32) (l2 : Int32) (l3 : Value) (h : qH) : q_run qm_X2_seekPress call 17 [.ref l0, .int l1, .int l2, l3] [] h =
  if q_cmp .gt l2 (9 : Int32) = true then
    some (.inl none, h)
  else
    q_gR h (.ref l0) 2 2 fun r1 =>
    q_ald h (.ref r1) 0 l2 fun x2 =>
    if q_cmp .eq x2 (-1 : Int32) = true then
      q_rcv h (.ref l0) 2 (q_rI (call 53 [.ref l0, .int l1, .int l2] h) q_t0 fun x4 h3 =>
      q_gI h3 (.ref l0) 2 9 fun x5 =>
      if q_cmp .eq x5 (-1 : Int32) = true then
        q_run qm_X2_seekPress call 59 [.ref l0, .int l1, .int l2, .int x4] [] h3
      else
        q_gI h3 (.ref l0) 2 10 fun x6 =>
        if q_cmp .ge x4 x6 = true then
          q_run qm_X2_seekPress call 69 [.ref l0, .int l1, .int l2, .int x4] [] h3
        else
          q_run qm_X2_seekPress call 59 [.ref l0, .int l1, .int l2, .int x4] [] h3)
    else
      q_run qm_X2_seekPress call 69 [.ref l0, .int l1, .int l2, l3] [] h := by
  refine (q_cut_eq _ _ [0, 17, 59, 69] 200 _ _ _ _).trans ?_
  rfl
set_option maxRecDepth 20000 in
theorem k_X2_seekPress_59 (call : Nat → List Value → qH → qR) (l0 : Nat) (l1 : Int32) (l2 : Int32) (l3 : Int32) (h : qH) : q_run qm_X2_seekPress call 59 [.ref l0, .int l1, .int l2, .int l3] [] h =
  q_pV h (.ref l0) 2 9 (.int l2) fun h1 =>
  q_pV h1 (.ref l0) 2 10 (.int l3) fun h2 =>
  q_run qm_X2_seekPress call 69 [.ref l0, .int l1, .int l2, .int l3] [] h2 := by
  refine (q_cut_eq _ _ [0, 17, 59, 69] 200 _ _ _ _).trans ?_
  rfl
set_option maxRecDepth 20000 in
theorem k_X2_seekPress_69 (call : Nat → List Value → qH → qR) (l0 : Nat) (l1 : Int32) (l2 : Int32) (l3 : Value) (h : qH) : q_run qm_X2_seekPress call 69 [.ref l0, .int l1, .int l2, l3] [] h =
  q_run qm_X2_seekPress call 17 [.ref l0, .int l1, .int (l2 + (1 : Int32)), l3] [] h := by
  refine (q_cut_eq _ _ [0, 17, 59, 69] 200 _ _ _ _).trans ?_
  rfl
set_option maxRecDepth 20000 in
theorem k_X2_worstLeft_0 (call : Nat → List Value → qH → qR) (l0 : Nat) (l1 : Int32) (l2 : Int32) (h : qH) : q_run qm_X2_worstLeft call 0 [.ref l0, .int l1, .int l2, q_junk, q_junk, q_junk] [] h =
  q_run qm_X2_worstLeft call 2 [.ref l0, .int l1, .int l2, .int (0 : Int32), q_junk, q_junk] [] h := by
  refine (q_cut_eq _ _ [0, 2, 26] 200 _ _ _ _).trans ?_
  rfl
set_option maxRecDepth 20000 in
theorem k_X2_worstLeft_2 (call : Nat → List Value → qH → qR) (l0 : Nat) (l1 : Int32) (l2 : Int32) (l3 : Int32) (l4 : Value) (l5 : Value) (h : qH) : q_run qm_X2_worstLeft call 2 [.ref l0, .int l1, .int l2, .int l3, l4, l5] [] h =
  if q_cmp .gt l3 (60 : Int32) = true then
    q_run qm_X2_worstLeft call 26 [.ref l0, .int l1, .int l2, .int (0 : Int32), .int (0 : Int32), l5] [] h
  else
    q_gR h (.ref l0) 2 5 fun r1 =>
    q_ast h (.ref r1) 0 l3 (0 : Int32) fun h2 =>
    q_run qm_X2_worstLeft call 2 [.ref l0, .int l1, .int l2, .int (l3 + (1 : Int32)), l4, l5] [] h2 := by
  refine (q_cut_eq _ _ [0, 2, 26] 200 _ _ _ _).trans ?_
  rfl
set_option maxRecDepth 20000 in
theorem k_X2_worstLeft_26 (call : Nat → List Value → qH → qR) (l0 : Nat) (l1 : Int32) (l2 : Int32) (l3 : Int32) (l4 : Int32) (l5 : Value) (h : qH) : q_run qm_X2_worstLeft call 26 [.ref l0, .int l1, .int l2, .int l3, .int l4, l5] [] h =
  q_gI h (.ref l0) 2 7 fun x1 =>
  if q_cmp .ge l4 x1 = true then
    some (.inl (some (.int l3)), h)
  else
    q_gR h (.ref l0) 2 4 fun r2 =>
    q_ald h (.ref r2) 0 l4 fun x3 =>
    q_rcv h (.ref l0) 2 (q_rI (call 51 [.ref l0, .int l1, .int l2, .int x3] h) q_t0 fun x5 h4 =>
    q_gR h4 (.ref l0) 2 5 fun r6 =>
    q_ald h4 (.ref r6) 0 x5 fun x7 =>
    q_ast h4 (.ref r6) 0 x5 (x7 + (1 : Int32)) fun h8 =>
    q_gR h8 (.ref l0) 2 5 fun r9 =>
    q_ald h8 (.ref r9) 0 x5 fun x10 =>
    q_run qm_X2_worstLeft call 26 [.ref l0, .int l1, .int l2, .int (if l3 < x10 then x10 else l3), .int (l4 + (1 : Int32)), .int x5] [] h8) := by
  refine (q_cut_eq _ _ [0, 2, 26] 200 _ _ _ _).trans ?_
  rfl
set_option maxRecDepth 20000 in
theorem k_X3_init_0 (call : Nat → List Value → qH → qR) (l0 : Nat) (l1 : Nat) (l2 : Nat) (h : qH) : q_run qm_X3_init call 0 [.ref l0, .ref l1, .ref l2] [] h =
  q_nar h 0 (10 : Int32) fun r1 h2 =>
  q_pV h2 (.ref l0) 3 2 (.ref r1) fun h3 =>
  q_nar h3 0 (10 : Int32) fun r4 h5 =>
  q_pV h5 (.ref l0) 3 3 (.ref r4) fun h6 =>
  q_nar h6 0 (10 : Int32) fun r7 h8 =>
  q_pV h8 (.ref l0) 3 4 (.ref r7) fun h9 =>
  q_run qm_X3_init call 28 [.ref l0, .ref l1, .ref l2] [] h9 := by
  refine (q_cut_eq _ _ [0, 28] 200 _ _ _ _).trans ?_
  rfl
set_option maxRecDepth 20000 in
theorem k_X3_init_28 (call : Nat → List Value → qH → qR) (l0 : Nat) (l1 : Nat) (l2 : Nat) (h : qH) : q_run qm_X3_init call 28 [.ref l0, .ref l1, .ref l2] [] h =
  q_nar h 0 (10 : Int32) fun r1 h2 =>
  q_pV h2 (.ref l0) 3 5 (.ref r1) fun h3 =>
  q_pV h3 (.ref l0) 3 0 (.ref l1) fun h4 =>
  q_pV h4 (.ref l0) 3 1 (.ref l2) fun h5 =>
  some (.inl none, h5) := by
  refine (q_cut_eq _ _ [0, 28] 200 _ _ _ _).trans ?_
  rfl
set_option maxRecDepth 20000 in
theorem k_X3_fight_0 (call : Nat → List Value → qH → qR) (l0 : Nat) (l1 : Int32) (l2 : Int32) (h : qH) : q_run qm_X3_fight call 0 [.ref l0, .int l1, .int l2, q_junk, q_junk] [] h =
  if q_cmp .ge l1 l2 = true then
    q_run qm_X3_fight call 11 [.ref l0, .int l1, .int l2, q_junk, q_junk] [.int (1 : Int32), .ref l0] h
  else
    q_run qm_X3_fight call 11 [.ref l0, .int l1, .int l2, q_junk, q_junk] [.int (-1 : Int32), .ref l0] h := by
  refine (q_cut_eq _ _ [0, 11, 57, 66, 90] 200 _ _ _ _).trans ?_
  rfl
set_option maxRecDepth 20000 in
theorem k_X3_fight_11 (call : Nat → List Value → qH → qR) (l0 : Nat) (l1 : Int32) (l2 : Int32) (l3 : Value) (l4 : Value) (s0 : Nat) (s1 : Int32) (h : qH) : q_run qm_X3_fight call 11 [.ref l0, .int l1, .int l2, l3, l4] [.int s1, .ref s0] h =
  q_pV h (.ref s0) 3 6 (.int s1) fun h1 =>
  q_pV h1 (.ref l0) 3 7 (.int (0 : Int32)) fun h2 =>
  q_pV h2 (.ref l0) 3 8 (.int (-1 : Int32)) fun h3 =>
  q_pV h3 (.ref l0) 3 9 (.int (0 : Int32)) fun h4 =>
  q_gR h4 (.ref l0) 3 2 fun r5 =>
  q_gR h4 (.ref l0) 3 3 fun r6 =>
  q_rcv h4 (.ref l0) 3 (q_rV (call 56 [.ref l0, .int l1, .ref r5, .ref r6] h4) q_t0 fun h7 =>
  q_gR h7 (.ref l0) 3 4 fun r9 =>
  q_gR h7 (.ref l0) 3 5 fun r10 =>
  q_rcv h7 (.ref l0) 3 (q_rV (call 56 [.ref l0, .int l2, .ref r9, .ref r10] h7) q_t0 fun h11 =>
  q_run qm_X3_fight call 57 [.ref l0, .int l1, .int l2, .int (1 : Int32), l4] [] h11)) := by
  refine (q_cut_eq _ _ [0, 11, 57, 66, 90] 200 _ _ _ _).trans ?_
  rfl
set_option maxRecDepth 20000 in
theorem k_X3_fight_57 (call : Nat → List Value → qH → qR) (l0 : Nat) (l1 : Value) (l2 : Value) (l3 : Int32) (l4 : Value) (h : qH) : q_run qm_X3_fight call 57 [.ref l0, l1, l2, .int l3, l4] [] h =
  if q_cmp .gt l3 (9 : Int32) = true then
    some (.inl none, h)
  else
    q_run qm_X3_fight call 66 [.ref l0, l1, l2, .int l3, .int (1 : Int32)] [] h := by
  refine (q_cut_eq _ _ [0, 11, 57, 66, 90] 200 _ _ _ _).trans ?_
  rfl
set_option maxRecDepth 20000 in
theorem k_X3_fight_66 (call : Nat → List Value → qH → qR) (l0 : Nat) (l1 : Value) (l2 : Value) (l3 : Int32) (l4 : Int32) (h : qH) : q_run qm_X3_fight call 66 [.ref l0, l1, l2, .int l3, .int l4] [] h =
  if q_cmp .gt l4 (9 : Int32) = true then
    q_run qm_X3_fight call 57 [.ref l0, l1, l2, .int (l3 + (1 : Int32)), .int l4] [] h
  else
    q_rcv h (.ref l0) 3 (q_rI (call 58 [.ref l0, .int l3, .int l4] h) q_t0 fun x2 h1 =>
    if q_cmp .eq x2 (0 : Int32) = true then
      q_run qm_X3_fight call 90 [.ref l0, l1, l2, .int l3, .int l4] [] h1
    else
      q_rcv h1 (.ref l0) 3 (q_rV (call 57 [.ref l0, .int l3, .int l4] h1) q_t0 fun h3 =>
      q_run qm_X3_fight call 90 [.ref l0, l1, l2, .int l3, .int l4] [] h3)) := by
  refine (q_cut_eq _ _ [0, 11, 57, 66, 90] 200 _ _ _ _).trans ?_
  rfl
set_option maxRecDepth 20000 in
theorem k_X3_fight_90 (call : Nat → List Value → qH → qR) (l0 : Nat) (l1 : Value) (l2 : Value) (l3 : Int32) (l4 : Int32) (h : qH) : q_run qm_X3_fight call 90 [.ref l0, l1, l2, .int l3, .int l4] [] h =
  q_run qm_X3_fight call 66 [.ref l0, l1, l2, .int l3, .int (l4 + (1 : Int32))] [] h := by
  refine (q_cut_eq _ _ [0, 11, 57, 66, 90] 200 _ _ _ _).trans ?_
  rfl
set_option maxRecDepth 20000 in
theorem k_X3_measure_0 (call : Nat → List Value → qH → qR) (l0 : Nat) (l1 : Int32) (l2 : Nat) (l3 : Nat) (h : qH) : q_run qm_X3_measure call 0 [.ref l0, .int l1, .ref l2, .ref l3, q_junk, q_junk, q_junk] [] h =
  q_run qm_X3_measure call 3 [.ref l0, .int l1, .ref l2, .ref l3, .int (1 : Int32), q_junk, q_junk] [] h := by
  refine (q_cut_eq _ _ [0, 3, 57, 88, 95] 200 _ _ _ _).trans ?_
  rfl
set_option maxRecDepth 20000 in
theorem k_X3_measure_3 (call : Nat → List Value → qH → qR) (l0 : Nat) (l1 : Int32) (l2 : Nat) (l3 : Nat) (l4 : Int32) (l5 : Value) (l6 : Value) (h : qH) : q_run qm_X3_measure call 3 [.ref l0, .int l1, .ref l2, .ref l3, .int l4, l5, l6] [] h =
  q_len h (.ref l2) fun x1 =>
  if q_cmp .ge l4 x1 = true then
    q_run qm_X3_measure call 95 [.ref l0, .int l1, .ref l2, .ref l3, .int l4, l5, l6] [] h
  else
    q_len h (.ref l3) fun x2 =>
    if q_cmp .ge l4 x2 = true then
      q_run qm_X3_measure call 95 [.ref l0, .int l1, .ref l2, .ref l3, .int l4, l5, l6] [] h
    else
      q_gR h (.ref l0) 3 1 fun r3 =>
      q_rcv h (.ref r3) 1 (q_rI (call 35 [.ref r3, .int l1, .int l4, .int (0 : Int32)] h) q_t0 fun x5 h4 =>
      q_gR h4 (.ref l0) 3 1 fun r6 =>
      q_gR h4 (.ref r6) 1 2 fun r7 =>
      q_ald h4 (.ref r7) 0 l1 fun x8 =>
      if q_cmp .ne x5 x8 = true then
        q_gR h4 (.ref l0) 3 0 fun r9 =>
        q_rcv h4 (.ref r9) 6 (q_rI (call 78 [.ref r9, .int x5] h4) q_t0 fun x11 h10 =>
        q_run qm_X3_measure call 57 [.ref l0, .int l1, .ref l2, .ref l3, .int l4, .int x5, l6] [.int x11] h10)
      else
        q_run qm_X3_measure call 57 [.ref l0, .int l1, .ref l2, .ref l3, .int l4, .int x5, l6] [.int (-1 : Int32)] h4) := by
  refine (q_cut_eq _ _ [0, 3, 57, 88, 95] 200 _ _ _ _).trans ?_
  rfl
set_option maxRecDepth 20000 in
theorem k_X3_measure_57 (call : Nat → List Value → qH → qR) (l0 : Nat) (l1 : Int32) (l2 : Nat) (l3 : Nat) (l4 : Int32) (l5 : Int32) (l6 : Value) (s0 : Int32) (h : qH) : q_run qm_X3_measure call 57 [.ref l0, .int l1, .ref l2, .ref l3, .int l4, .int l5, l6] [.int s0] h =
  q_ast h (.ref l2) 0 l4 l5 fun h1 =>
  if q_cmp .ne s0 (-1 : Int32) = true then
    q_gR h1 (.ref l0) 3 0 fun r2 =>
    q_gR h1 (.ref r2) 6 10 fun r3 =>
    q_ald h1 (.ref r3) 0 s0 fun x4 =>
    q_run qm_X3_measure call 88 [.ref l0, .int l1, .ref l2, .ref l3, .int l4, .int l5, .int s0] [.int x4, .int l4, .ref l3] h1
  else
    q_run qm_X3_measure call 88 [.ref l0, .int l1, .ref l2, .ref l3, .int l4, .int l5, .int s0] [.int (0 : Int32), .int l4, .ref l3] h1 := by
  refine (q_cut_eq _ _ [0, 3, 57, 88, 95] 200 _ _ _ _).trans ?_
  rfl
set_option maxRecDepth 20000 in
theorem k_X3_measure_88 (call : Nat → List Value → qH → qR) (l0 : Nat) (l1 : Int32) (l2 : Nat) (l3 : Nat) (l4 : Int32) (l5 : Value) (l6 : Value) (s0 : Nat) (s1 : Int32) (s2 : Int32) (h : qH) : q_run qm_X3_measure call 88 [.ref l0, .int l1, .ref l2, .ref l3, .int l4, l5, l6] [.int s2, .int s1, .ref s0] h =
  q_ast h (.ref s0) 0 s1 s2 fun h1 =>
  q_run qm_X3_measure call 3 [.ref l0, .int l1, .ref l2, .ref l3, .int (l4 + (1 : Int32)), l5, l6] [] h1 := by
  refine (q_cut_eq _ _ [0, 3, 57, 88, 95] 200 _ _ _ _).trans ?_
  rfl
set_option maxRecDepth 20000 in
theorem k_X3_measure_95 (call : Nat → List Value → qH → qR) (l0 : Value) (l1 : Value) (l2 : Value) (l3 : Value) (l4 : Value) (l5 : Value) (l6 : Value) (h : qH) : q_run qm_X3_measure call 95 [l0, l1, l2, l3, l4, l5, l6] [] h =
  some (.inl none, h) := by
  refine (q_cut_eq _ _ [0, 3, 57, 88, 95] 200 _ _ _ _).trans ?_
  rfl
set_option maxRecDepth 20000 in
theorem k_X3_note_0 (call : Nat → List Value → qH → qR) (l0 : Nat) (l1 : Int32) (l2 : Int32) (h : qH) : q_run qm_X3_note call 0 [.ref l0, .int l1, .int l2] [] h =
  q_gI h (.ref l0) 3 7 fun x1 =>
  if q_cmp .ne x1 (0 : Int32) = true then
    q_run qm_X3_note call 34 [.ref l0, .int l1, .int l2] [] h
  else
    q_pV h (.ref l0) 3 8 (.int (((10 : Int32) * l1) + l2)) fun h2 =>
    q_rcv h2 (.ref l0) 3 (q_rI (call 59 [.ref l0, .int l1, .int l2] h2) q_t0 fun x4 h3 =>
    q_rcv h3 (.ref l0) 3 (q_rI (call 60 [.ref l0, .int l1, .int l2] h3) q_t0 fun x6 h5 =>
    q_pV h5 (.ref l0) 3 9 (.int (x4 + x6)) fun h7 =>
    q_run qm_X3_note call 34 [.ref l0, .int l1, .int l2] [] h7)) := by
  refine (q_cut_eq _ _ [0, 34] 200 _ _ _ _).trans ?_
  rfl
set_option maxRecDepth 20000 in
theorem k_X3_note_34 (call : Nat → List Value → qH → qR) (l0 : Nat) (l1 : Value) (l2 : Value) (h : qH) : q_run qm_X3_note call 34 [.ref l0, l1, l2] [] h =
  q_gI h (.ref l0) 3 7 fun x1 =>
  q_pV h (.ref l0) 3 7 (.int (x1 + (1 : Int32))) fun h2 =>
  some (.inl none, h2) := by
  refine (q_cut_eq _ _ [0, 34] 200 _ _ _ _).trans ?_
  rfl
set_option maxRecDepth 20000 in
theorem k_X3_isRest_0 (call : Nat → List Value → qH → qR) (l0 : Nat) (l1 : Int32) (l2 : Int32) (h : qH) : q_run qm_X3_isRest call 0 [.ref l0, .int l1, .int l2, q_junk, q_junk, q_junk] [] h =
  q_rcv h (.ref l0) 3 (q_rI (call 59 [.ref l0, .int l1, .int l2] h) q_t0 fun x2 h1 =>
  q_rcv h1 (.ref l0) 3 (q_rI (call 60 [.ref l0, .int l1, .int l2] h1) q_t0 fun x4 h3 =>
  q_run qm_X3_isRest call 18 [.ref l0, .int l1, .int l2, .int x2, .int x4, .int (1 : Int32)] [] h3)) := by
  refine (q_cut_eq _ _ [0, 18, 48] 200 _ _ _ _).trans ?_
  rfl
set_option maxRecDepth 20000 in
theorem k_X3_isRest_18 (call : Nat → List Value → qH → qR) (l0 : Nat) (l1 : Int32) (l2 : Int32) (l3 : Int32) (l4 : Int32) (l5 : Int32) (h : qH) : q_run qm_X3_isRest call 18 [.ref l0, .int l1, .int l2, .int l3, .int l4, .int l5] [] h =
  if q_cmp .gt l5 (9 : Int32) = true then
    q_boo true (1 : Int32) fun z => some (.inl (some (.int z)), h)
  else
    q_rcv h (.ref l0) 3 (q_rI (call 59 [.ref l0, .int l5, .int l2] h) q_t0 fun x2 h1 =>
    if q_cmp .gt x2 l3 = true then
      q_run qm_X3_isRest call 48 [.ref l0, .int l1, .int l2, .int l3, .int l4, .int l5] [] h1
    else
      q_rcv h1 (.ref l0) 3 (q_rI (call 60 [.ref l0, .int l1, .int l5] h1) q_t0 fun x4 h3 =>
      if q_cmp .le x4 l4 = true then
        q_run qm_X3_isRest call 18 [.ref l0, .int l1, .int l2, .int l3, .int l4, .int (l5 + (1 : Int32))] [] h3
      else
        q_run qm_X3_isRest call 48 [.ref l0, .int l1, .int l2, .int l3, .int l4, .int l5] [] h3)) := by
  refine (q_cut_eq _ _ [0, 18, 48] 200 _ _ _ _).trans ?_
  rfl
set_option maxRecDepth 20000 in
theorem k_X3_isRest_48 (call : Nat → List Value → qH → qR) (l0 : Value) (l1 : Value) (l2 : Value) (l3 : Value) (l4 : Value) (l5 : Value) (h : qH) : q_run qm_X3_isRest call 48 [l0, l1, l2, l3, l4, l5] [] h =
  q_boo true (0 : Int32) fun z => some (.inl (some (.int z)), h) := by
  refine (q_cut_eq _ _ [0, 18, 48] 200 _ _ _ _).trans ?_
  rfl
set_option maxRecDepth 20000 in
theorem k_X3_oneHas_0 (call : Nat → List Value → qH → qR) (l0 : Nat) (l1 : Int32) (l2 : Int32) (h : qH) : q_run qm_X3_oneHas call 0 [.ref l0, .int l1, .int l2] [] h =
  q_gR h (.ref l0) 3 3 fun r1 =>
  q_ald h (.ref r1) 0 l1 fun x2 =>
  q_rcv h (.ref l0) 3 (q_rI (call 61 [.ref l0, .int l1, .int l2] h) q_t0 fun x4 h3 =>
  q_gI h3 (.ref l0) 3 6 fun x5 =>
  some (.inl (some (.int (x2 + (x4 * x5)))), h3)) := by
  refine (q_cut_eq _ _ [0] 200 _ _ _ _).trans ?_
  rfl
set_option maxRecDepth 20000 in
theorem k_X3_otherHas_0 (call : Nat → List Value → qH → qR) (l0 : Nat) (l1 : Int32) (l2 : Int32) (h : qH) : q_run qm_X3_otherHas call 0 [.ref l0, .int l1, .int l2] [] h =
  q_gR h (.ref l0) 3 5 fun r1 =>
  q_ald h (.ref r1) 0 l2 fun x2 =>
  q_rcv h (.ref l0) 3 (q_rI (call 61 [.ref l0, .int l1, .int l2] h) q_t0 fun x4 h3 =>
  q_gI h3 (.ref l0) 3 6 fun x5 =>
  some (.inl (some (.int (x2 - (x4 * x5)))), h3)) := by
  refine (q_cut_eq _ _ [0] 200 _ _ _ _).trans ?_
  rfl
set_option maxRecDepth 20000 in
theorem k_X3_clash_0 (call : Nat → List Value → qH → qR) (l0 : Nat) (l1 : Int32) (l2 : Int32) (h : qH) : q_run qm_X3_clash call 0 [.ref l0, .int l1, .int l2, q_junk] [] h =
  q_gR h (.ref l0) 3 2 fun r1 =>
  q_ald h (.ref r1) 0 l1 fun x2 =>
  if q_cmp .lt x2 (0 : Int32) = true then
    q_run qm_X3_clash call 37 [.ref l0, .int l1, .int l2, .int x2] [] h
  else
    q_gR h (.ref l0) 3 4 fun r3 =>
    q_ald h (.ref r3) 0 l2 fun x4 =>
    if q_cmp .ne x2 x4 = true then
      q_run qm_X3_clash call 37 [.ref l0, .int l1, .int l2, .int x2] [] h
    else
      q_gR h (.ref l0) 3 0 fun r5 =>
      q_rcv h (.ref r5) 6 (q_rI (call 78 [.ref r5, .int x2] h) q_t0 fun x7 h6 =>
      if q_cmp .ne x7 (-1 : Int32) = true then
        q_run qm_X3_clash call 37 [.ref l0, .int l1, .int l2, .int x2] [] h6
      else
        q_run qm_X3_clash call 38 [.ref l0, .int l1, .int l2, .int x2] [.int (1 : Int32)] h6) := by
  refine (q_cut_eq _ _ [0, 37, 38] 200 _ _ _ _).trans ?_
  rfl
set_option maxRecDepth 20000 in
theorem k_X3_clash_37 (call : Nat → List Value → qH → qR) (l0 : Value) (l1 : Value) (l2 : Value) (l3 : Value) (h : qH) : q_run qm_X3_clash call 37 [l0, l1, l2, l3] [] h =
  q_run qm_X3_clash call 38 [l0, l1, l2, l3] [.int (0 : Int32)] h := by
  refine (q_cut_eq _ _ [0, 37, 38] 200 _ _ _ _).trans ?_
  rfl
set_option maxRecDepth 20000 in
theorem k_X3_clash_38 (call : Nat → List Value → qH → qR) (l0 : Value) (l1 : Value) (l2 : Value) (l3 : Value) (s0 : Int32) (h : qH) : q_run qm_X3_clash call 38 [l0, l1, l2, l3] [.int s0] h =
  some (.inl (some (.int s0)), h) := by
  refine (q_cut_eq _ _ [0, 37, 38] 200 _ _ _ _).trans ?_
  rfl
