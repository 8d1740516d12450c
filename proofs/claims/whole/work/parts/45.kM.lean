set_option maxRecDepth 20000 in
theorem k_X11_thrown_0 (call : Nat → List Value → qH → qR) (l0 : Nat) (h : qH) : q_run qm_X11_thrown call 0 [.ref l0] [] h =
  q_gI h (.ref l0) 11 0 fun x1 =>
  some (.inl (some (.int x1)), h) := by
  refine (q_cut_eq _ _ [0] 200 _ _ _ _).trans ?_
  rfl
set_option maxRecDepth 20000 in
theorem k_X11_may_0 (call : Nat → List Value → qH → qR) (l0 : Nat) (l1 : Int32) (l2 : Int32) (l3 : Int32) (h : qH) : q_run qm_X11_may call 0 [.ref l0, .int l1, .int l2, .int l3] [] h =
  if q_cmp .ne l1 (0 : Int32) = true then
    q_run qm_X11_may call 26 [.ref l0, .int l1, .int l2, .int l3] [] h
  else
    q_gI h (.ref l0) 11 0 fun x1 =>
    if q_cmp .ne x1 (0 : Int32) = true then
      q_run qm_X11_may call 26 [.ref l0, .int l1, .int l2, .int l3] [] h
    else
      q_pV h (.ref l0) 11 0 (.int l2) fun h2 =>
      q_gR h2 (.ref l0) 11 1 fun r3 =>
      q_ald h2 (.ref r3) 0 l3 fun x4 =>
      q_ast h2 (.ref r3) 0 l3 (x4 + (1 : Int32)) fun h5 =>
      q_run qm_X11_may call 26 [.ref l0, .int l1, .int l2, .int l3] [] h5 := by
  refine (q_cut_eq _ _ [0, 26, 38] 200 _ _ _ _).trans ?_
  rfl
set_option maxRecDepth 20000 in
theorem k_X11_may_26 (call : Nat → List Value → qH → qR) (l0 : Nat) (l1 : Value) (l2 : Value) (l3 : Value) (h : qH) : q_run qm_X11_may call 26 [.ref l0, l1, l2, l3] [] h =
  q_gI h (.ref l0) 11 0 fun x1 =>
  if q_cmp .ne x1 (0 : Int32) = true then
    q_run qm_X11_may call 38 [.ref l0, l1, l2, l3] [.int (0 : Int32)] h
  else
    q_run qm_X11_may call 38 [.ref l0, l1, l2, l3] [.int (1 : Int32)] h := by
  refine (q_cut_eq _ _ [0, 26, 38] 200 _ _ _ _).trans ?_
  rfl
set_option maxRecDepth 20000 in
theorem k_X11_may_38 (call : Nat → List Value → qH → qR) (l0 : Value) (l1 : Value) (l2 : Value) (l3 : Value) (s0 : Int32) (h : qH) : q_run qm_X11_may call 38 [l0, l1, l2, l3] [.int s0] h =
  q_boo true s0 fun z => some (.inl (some (.int z)), h) := by
  refine (q_cut_eq _ _ [0, 26, 38] 200 _ _ _ _).trans ?_
  rfl
set_option maxRecDepth 20000 in
theorem k_X11_within_0 (call : Nat → List Value → qH → qR) (l0 : Int32) (l1 : Int32) (l2 : Int32) (h : qH) : q_run qm_X11_within call 0 [.int l0, .int l1, .int l2] [] h =
  if q_cmp .lt l0 l1 = true then
    q_run qm_X11_within call 14 [.int l0, .int l1, .int l2] [] h
  else
    if q_cmp .gt l0 l2 = true then
      q_run qm_X11_within call 14 [.int l0, .int l1, .int l2] [] h
    else
      q_run qm_X11_within call 15 [.int l0, .int l1, .int l2] [.int (1 : Int32)] h := by
  refine (q_cut_eq _ _ [0, 14, 15] 200 _ _ _ _).trans ?_
  rfl
set_option maxRecDepth 20000 in
theorem k_X11_within_14 (call : Nat → List Value → qH → qR) (l0 : Value) (l1 : Value) (l2 : Value) (h : qH) : q_run qm_X11_within call 14 [l0, l1, l2] [] h =
  q_run qm_X11_within call 15 [l0, l1, l2] [.int (0 : Int32)] h := by
  refine (q_cut_eq _ _ [0, 14, 15] 200 _ _ _ _).trans ?_
  rfl
set_option maxRecDepth 20000 in
theorem k_X11_within_15 (call : Nat → List Value → qH → qR) (l0 : Value) (l1 : Value) (l2 : Value) (s0 : Int32) (h : qH) : q_run qm_X11_within call 15 [l0, l1, l2] [.int s0] h =
  q_boo true s0 fun z => some (.inl (some (.int z)), h) := by
  refine (q_cut_eq _ _ [0, 14, 15] 200 _ _ _ _).trans ?_
  rfl
set_option maxRecDepth 20000 in
theorem k_X11_init_0 (call : Nat → List Value → qH → qR) (l0 : Nat) (h : qH) : q_run qm_X11_init call 0 [.ref l0] [] h =
  q_nar h 0 (2 : Int32) fun r1 h2 =>
  q_pV h2 (.ref l0) 11 1 (.ref r1) fun h3 =>
  q_pV h3 (.ref l0) 11 8 (.int (-1 : Int32)) fun h4 =>
  q_nar h4 0 (600 : Int32) fun r5 h6 =>
  q_pV h6 (.ref l0) 11 9 (.ref r5) fun h7 =>
  q_nar h7 0 (5 : Int32) fun r8 h9 =>
  q_pV h9 (.ref l0) 11 10 (.ref r8) fun h10 =>
  q_run qm_X11_init call 32 [.ref l0] [] h10 := by
  refine (q_cut_eq _ _ [0, 32, 63, 98, 133, 167, 199, 229] 200 _ _ _ _).trans ?_
  rfl
set_option maxRecDepth 20000 in
theorem k_X11_init_32 (call : Nat → List Value → qH → qR) (l0 : Nat) (h : qH) : q_run qm_X11_init call 32 [.ref l0] [] h =
  q_nar h 0 (30 : Int32) fun r1 h2 =>
  q_pV h2 (.ref l0) 11 11 (.ref r1) fun h3 =>
  q_nar h3 0 (8 : Int32) fun r4 h5 =>
  q_pV h5 (.ref l0) 11 12 (.ref r4) fun h6 =>
  q_nar h6 0 (5 : Int32) fun r7 h8 =>
  q_pV h8 (.ref l0) 11 13 (.ref r7) fun h9 =>
  q_nar h9 0 (30 : Int32) fun r10 h11 =>
  q_pV h11 (.ref l0) 11 14 (.ref r10) fun h12 =>
  q_run qm_X11_init call 63 [.ref l0] [] h12 := by
  refine (q_cut_eq _ _ [0, 32, 63, 98, 133, 167, 199, 229] 200 _ _ _ _).trans ?_
  rfl
set_option maxRecDepth 20000 in
theorem k_X11_init_63 (call : Nat → List Value → qH → qR) (l0 : Nat) (h : qH) : q_run qm_X11_init call 63 [.ref l0] [] h =
  q_nar h 0 (8 : Int32) fun r1 h2 =>
  q_pV h2 (.ref l0) 11 15 (.ref r1) fun h3 =>
  q_nar h3 0 (150 : Int32) fun r4 h5 =>
  q_pV h5 (.ref l0) 11 26 (.ref r4) fun h6 =>
  q_nar h6 0 (150 : Int32) fun r7 h8 =>
  q_pV h8 (.ref l0) 11 27 (.ref r7) fun h9 =>
  q_nar h9 0 (150 : Int32) fun r10 h11 =>
  q_pV h11 (.ref l0) 11 28 (.ref r10) fun h12 =>
  q_run qm_X11_init call 98 [.ref l0] [] h12 := by
  refine (q_cut_eq _ _ [0, 32, 63, 98, 133, 167, 199, 229] 200 _ _ _ _).trans ?_
  rfl
set_option maxRecDepth 20000 in
theorem k_X11_init_98 (call : Nat → List Value → qH → qR) (l0 : Nat) (h : qH) : q_run qm_X11_init call 98 [.ref l0] [] h =
  q_nar h 0 (150 : Int32) fun r1 h2 =>
  q_pV h2 (.ref l0) 11 29 (.ref r1) fun h3 =>
  q_nar h3 0 (150 : Int32) fun r4 h5 =>
  q_pV h5 (.ref l0) 11 30 (.ref r4) fun h6 =>
  q_nar h6 0 (9 : Int32) fun r7 h8 =>
  q_pV h8 (.ref l0) 11 33 (.ref r7) fun h9 =>
  q_nar h9 0 (150 : Int32) fun r10 h11 =>
  q_pV h11 (.ref l0) 11 34 (.ref r10) fun h12 =>
  q_run qm_X11_init call 133 [.ref l0] [] h12 := by
  refine (q_cut_eq _ _ [0, 32, 63, 98, 133, 167, 199, 229] 200 _ _ _ _).trans ?_
  rfl
set_option maxRecDepth 20000 in
theorem k_X11_init_133 (call : Nat → List Value → qH → qR) (l0 : Nat) (h : qH) : q_run qm_X11_init call 133 [.ref l0] [] h =
  q_nar h 0 (150 : Int32) fun r1 h2 =>
  q_pV h2 (.ref l0) 11 35 (.ref r1) fun h3 =>
  q_nar h3 0 (47 : Int32) fun r4 h5 =>
  q_pV h5 (.ref l0) 11 42 (.ref r4) fun h6 =>
  q_nar h6 0 (47 : Int32) fun r7 h8 =>
  q_pV h8 (.ref l0) 11 43 (.ref r7) fun h9 =>
  q_nar h9 0 (752 : Int32) fun r10 h11 =>
  q_pV h11 (.ref l0) 11 44 (.ref r10) fun h12 =>
  q_run qm_X11_init call 167 [.ref l0] [] h12 := by
  refine (q_cut_eq _ _ [0, 32, 63, 98, 133, 167, 199, 229] 200 _ _ _ _).trans ?_
  rfl
set_option maxRecDepth 20000 in
theorem k_X11_init_167 (call : Nat → List Value → qH → qR) (l0 : Nat) (h : qH) : q_run qm_X11_init call 167 [.ref l0] [] h =
  q_nar h 3 (10 : Int32) fun r1 h2 =>
  q_pV h2 (.ref l0) 11 45 (.ref r1) fun h3 =>
  q_nar h3 0 (9 : Int32) fun r4 h5 =>
  q_pV h5 (.ref l0) 11 46 (.ref r4) fun h6 =>
  q_nar h6 0 (9 : Int32) fun r7 h8 =>
  q_pV h8 (.ref l0) 11 47 (.ref r7) fun h9 =>
  q_nar h9 0 (30 : Int32) fun r10 h11 =>
  q_pV h11 (.ref l0) 11 49 (.ref r10) fun h12 =>
  q_run qm_X11_init call 199 [.ref l0] [] h12 := by
  refine (q_cut_eq _ _ [0, 32, 63, 98, 133, 167, 199, 229] 200 _ _ _ _).trans ?_
  rfl
set_option maxRecDepth 20000 in
theorem k_X11_init_199 (call : Nat → List Value → qH → qR) (l0 : Nat) (h : qH) : q_run qm_X11_init call 199 [.ref l0] [] h =
  q_nar h 0 (30 : Int32) fun r1 h2 =>
  q_pV h2 (.ref l0) 11 50 (.ref r1) fun h3 =>
  q_nar h3 0 (30 : Int32) fun r4 h5 =>
  q_pV h5 (.ref l0) 11 51 (.ref r4) fun h6 =>
  q_nar h6 0 (4 : Int32) fun r7 h8 =>
  q_pV h8 (.ref l0) 11 54 (.ref r7) fun h9 =>
  q_nar h9 0 (4 : Int32) fun r10 h11 =>
  q_pV h11 (.ref l0) 11 55 (.ref r10) fun h12 =>
  q_run qm_X11_init call 229 [.ref l0] [] h12 := by
  refine (q_cut_eq _ _ [0, 32, 63, 98, 133, 167, 199, 229] 200 _ _ _ _).trans ?_
  rfl
set_option maxRecDepth 20000 in
theorem k_X11_init_229 (call : Nat → List Value → qH → qR) (l0 : Nat) (h : qH) : q_run qm_X11_init call 229 [.ref l0] [] h =
  q_nar h 0 (61 : Int32) fun r1 h2 =>
  q_pV h2 (.ref l0) 11 57 (.ref r1) fun h3 =>
  q_nar h3 0 (2400 : Int32) fun r4 h5 =>
  q_pV h5 (.ref l0) 11 60 (.ref r4) fun h6 =>
  q_rcv h6 (.ref l0) 11 (q_rV (call 183 [.ref l0] h6) q_t0 fun h7 =>
  q_rcv h7 (.ref l0) 11 (q_rV (call 184 [.ref l0] h7) q_t0 fun h9 =>
  some (.inl none, h9))) := by
  refine (q_cut_eq _ _ [0, 32, 63, 98, 133, 167, 199, 229] 200 _ _ _ _).trans ?_
  rfl
set_option maxRecDepth 20000 in
theorem k_X11_feed_0 (call : Nat → List Value → qH → qR) (l0 : Nat) (l1 : Int32) (l2 : Int32) (l3 : Int32) (l4 : Int32) (l5 : Int32) (h : qH) : q_run qm_X11_feed call 0 [.ref l0, .int l1, .int l2, .int l3, .int l4, .int l5, q_junk, q_junk] [] h =
  q_pV h (.ref l0) 11 0 (.int (0 : Int32)) fun h1 =>
  q_gI h1 (.ref l0) 11 2 fun x2 =>
  if q_cmp .le (x2 + (20 : Int32)) (600 : Int32) = true then
    q_run qm_X11_feed call 23 [.ref l0, .int l1, .int l2, .int l3, .int l4, .int l5, .int (0 : Int32), q_junk] [] h1
  else
    some (.inl (some (.int (-1 : Int32))), h1) := by
  refine (q_cut_eq _ _ [0, 23, 76] 200 _ _ _ _).trans ?_
  rfl
set_option maxRecDepth 20000 in
theorem k_X11_feed_23 (call : Nat → List Value → qH → qR) (l0 : Nat) (l1 : Int32) (l2 : Int32) (l3 : Int32) (l4 : Int32) (l5 : Int32) (l6 : Int32) (l7 : Value) (h : qH) : q_run qm_X11_feed call 23 [.ref l0, .int l1, .int l2, .int l3, .int l4, .int l5, .int l6, l7] [] h =
  if q_cmp .ge l6 (20 : Int32) = true then
    q_gI h (.ref l0) 11 2 fun x1 =>
    some (.inl (some (.int x1)), h)
  else
    if q_cmp .ge l6 (4 : Int32) = true then
      if q_cmp .ge l6 (8 : Int32) = true then
        if q_cmp .ge l6 (12 : Int32) = true then
          if q_cmp .ge l6 (16 : Int32) = true then
            q_run qm_X11_feed call 76 [.ref l0, .int l1, .int l2, .int l3, .int l4, .int l5, .int l6, l7] [.int l5] h
          else
            q_run qm_X11_feed call 76 [.ref l0, .int l1, .int l2, .int l3, .int l4, .int l5, .int l6, l7] [.int l4] h
        else
          q_run qm_X11_feed call 76 [.ref l0, .int l1, .int l2, .int l3, .int l4, .int l5, .int l6, l7] [.int l3] h
      else
        q_run qm_X11_feed call 76 [.ref l0, .int l1, .int l2, .int l3, .int l4, .int l5, .int l6, l7] [.int l2] h
    else
      q_run qm_X11_feed call 76 [.ref l0, .int l1, .int l2, .int l3, .int l4, .int l5, .int l6, l7] [.int l1] h := by
  refine (q_cut_eq _ _ [0, 23, 76] 200 _ _ _ _).trans ?_
  rfl
set_option maxRecDepth 20000 in
theorem k_X11_feed_76 (call : Nat → List Value → qH → qR) (l0 : Nat) (l1 : Int32) (l2 : Int32) (l3 : Int32) (l4 : Int32) (l5 : Int32) (l6 : Int32) (l7 : Value) (s0 : Int32) (h : qH) : q_run qm_X11_feed call 76 [.ref l0, .int l1, .int l2, .int l3, .int l4, .int l5, .int l6, l7] [.int s0] h =
  q_gR h (.ref l0) 11 9 fun r1 =>
  q_gI h (.ref l0) 11 2 fun x2 =>
  q_ast h (.ref r1) 0 x2 ((s0 >>> (((24 : Int32) - ((8 : Int32) * (l6 - l6 / (4 : Int32) * (4 : Int32)))) &&& 31)) &&& (255 : Int32)) fun h3 =>
  q_gI h3 (.ref l0) 11 2 fun x4 =>
  q_pV h3 (.ref l0) 11 2 (.int (x4 + (1 : Int32))) fun h5 =>
  q_run qm_X11_feed call 23 [.ref l0, .int l1, .int l2, .int l3, .int l4, .int l5, .int (l6 + (1 : Int32)), .int s0] [] h5 := by
  refine (q_cut_eq _ _ [0, 23, 76] 200 _ _ _ _).trans ?_
  rfl
set_option maxRecDepth 20000 in
theorem k_X11_fine_0 (call : Nat → List Value → qH → qR) (l0 : Nat) (h : qH) : q_run qm_X11_fine call 0 [.ref l0] [] h =
  q_gI h (.ref l0) 11 5 fun x1 =>
  if q_cmp .ne x1 (-1 : Int32) = true then
    q_run qm_X11_fine call 13 [.ref l0] [.int (0 : Int32)] h
  else
    q_run qm_X11_fine call 13 [.ref l0] [.int (1 : Int32)] h := by
  refine (q_cut_eq _ _ [0, 13] 200 _ _ _ _).trans ?_
  rfl
set_option maxRecDepth 20000 in
theorem k_X11_fine_13 (call : Nat → List Value → qH → qR) (l0 : Value) (s0 : Int32) (h : qH) : q_run qm_X11_fine call 13 [l0] [.int s0] h =
  q_boo true s0 fun z => some (.inl (some (.int z)), h) := by
  refine (q_cut_eq _ _ [0, 13] 200 _ _ _ _).trans ?_
  rfl
set_option maxRecDepth 20000 in
theorem k_X11_wrong_0 (call : Nat → List Value → qH → qR) (l0 : Nat) (l1 : Int32) (l2 : Int32) (h : qH) : q_run qm_X11_wrong call 0 [.ref l0, .int l1, .int l2] [] h =
  q_gI h (.ref l0) 11 5 fun x1 =>
  if q_cmp .eq x1 (-1 : Int32) = true then
    q_pV h (.ref l0) 11 5 (.int l2) fun h2 =>
    q_pV h2 (.ref l0) 11 6 (.int l1) fun h3 =>
    some (.inl none, h3)
  else
    some (.inl none, h) := by
  refine (q_cut_eq _ _ [0] 200 _ _ _ _).trans ?_
  rfl
set_option maxRecDepth 20000 in
theorem k_X11_here_0 (call : Nat → List Value → qH → qR) (l0 : Nat) (h : qH) : q_run qm_X11_here call 0 [.ref l0] [] h =
  q_gI h (.ref l0) 11 4 fun x1 =>
  q_gI h (.ref l0) 11 3 fun x2 =>
  if q_cmp .ge x1 x2 = true then
    q_run qm_X11_here call 38 [.ref l0] [] h
  else
    q_gR h (.ref l0) 11 9 fun r3 =>
    q_gI h (.ref l0) 11 4 fun x4 =>
    q_ald h (.ref r3) 0 x4 fun x5 =>
    if q_cmp .ne x5 (32 : Int32) = true then
      q_run qm_X11_here call 38 [.ref l0] [] h
    else
      q_gI h (.ref l0) 11 4 fun x6 =>
      q_pV h (.ref l0) 11 4 (.int (x6 + (1 : Int32))) fun h7 =>
      q_run qm_X11_here call 0 [.ref l0] [] h7 := by
  refine (q_cut_eq _ _ [0, 38, 62] 200 _ _ _ _).trans ?_
  rfl
set_option maxRecDepth 20000 in
theorem k_X11_here_38 (call : Nat → List Value → qH → qR) (l0 : Nat) (h : qH) : q_run qm_X11_here call 38 [.ref l0] [] h =
  q_gI h (.ref l0) 11 4 fun x1 =>
  q_gI h (.ref l0) 11 3 fun x2 =>
  if q_cmp .ge x1 x2 = true then
    q_run qm_X11_here call 62 [.ref l0] [.int (0 : Int32)] h
  else
    q_gR h (.ref l0) 11 9 fun r3 =>
    q_gI h (.ref l0) 11 4 fun x4 =>
    q_ald h (.ref r3) 0 x4 fun x5 =>
    q_run qm_X11_here call 62 [.ref l0] [.int x5] h := by
  refine (q_cut_eq _ _ [0, 38, 62] 200 _ _ _ _).trans ?_
  rfl
set_option maxRecDepth 20000 in
theorem k_X11_here_62 (call : Nat → List Value → qH → qR) (l0 : Value) (s0 : Int32) (h : qH) : q_run qm_X11_here call 62 [l0] [.int s0] h =
  some (.inl (some (.int s0)), h) := by
  refine (q_cut_eq _ _ [0, 38, 62] 200 _ _ _ _).trans ?_
  rfl
set_option maxRecDepth 20000 in
theorem k_X11_isSmall_0 (call : Nat → List Value → qH → qR) (l0 : Int32) (h : qH) : q_run qm_X11_isSmall call 0 [.int l0] [] h =
  if q_cmp .lt l0 (97 : Int32) = true then
    q_run qm_X11_isSmall call 16 [.int l0] [] h
  else
    if q_cmp .gt l0 (122 : Int32) = true then
      q_run qm_X11_isSmall call 16 [.int l0] [] h
    else
      q_run qm_X11_isSmall call 17 [.int l0] [.int (1 : Int32)] h := by
  refine (q_cut_eq _ _ [0, 16, 17] 200 _ _ _ _).trans ?_
  rfl
set_option maxRecDepth 20000 in
theorem k_X11_isSmall_16 (call : Nat → List Value → qH → qR) (l0 : Value) (h : qH) : q_run qm_X11_isSmall call 16 [l0] [] h =
  q_run qm_X11_isSmall call 17 [l0] [.int (0 : Int32)] h := by
  refine (q_cut_eq _ _ [0, 16, 17] 200 _ _ _ _).trans ?_
  rfl
set_option maxRecDepth 20000 in
theorem k_X11_isSmall_17 (call : Nat → List Value → qH → qR) (l0 : Value) (s0 : Int32) (h : qH) : q_run qm_X11_isSmall call 17 [l0] [.int s0] h =
  q_boo true s0 fun z => some (.inl (some (.int z)), h) := by
  refine (q_cut_eq _ _ [0, 16, 17] 200 _ _ _ _).trans ?_
  rfl
set_option maxRecDepth 20000 in
theorem k_X11_isDigit_0 (call : Nat → List Value → qH → qR) (l0 : Int32) (h : qH) : q_run qm_X11_isDigit call 0 [.int l0] [] h =
  if q_cmp .lt l0 (48 : Int32) = true then
    q_run qm_X11_isDigit call 16 [.int l0] [] h
  else
    if q_cmp .gt l0 (57 : Int32) = true then
      q_run qm_X11_isDigit call 16 [.int l0] [] h
    else
      q_run qm_X11_isDigit call 17 [.int l0] [.int (1 : Int32)] h := by
  refine (q_cut_eq _ _ [0, 16, 17] 200 _ _ _ _).trans ?_
  rfl
set_option maxRecDepth 20000 in
theorem k_X11_isDigit_16 (call : Nat → List Value → qH → qR) (l0 : Value) (h : qH) : q_run qm_X11_isDigit call 16 [l0] [] h =
  q_run qm_X11_isDigit call 17 [l0] [.int (0 : Int32)] h := by
  refine (q_cut_eq _ _ [0, 16, 17] 200 _ _ _ _).trans ?_
  rfl
set_option maxRecDepth 20000 in
theorem k_X11_isDigit_17 (call : Nat → List Value → qH → qR) (l0 : Value) (s0 : Int32) (h : qH) : q_run qm_X11_isDigit call 17 [l0] [.int s0] h =
  q_boo true s0 fun z => some (.inl (some (.int z)), h) := by
  refine (q_cut_eq _ _ [0, 16, 17] 200 _ _ _ _).trans ?_
  rfl
set_option maxRecDepth 20000 in
theorem k_X11_word_0 (call : Nat → List Value → qH → qR) (l0 : Nat) (h : qH) : q_run qm_X11_word call 0 [.ref l0, q_junk, q_junk, q_junk] [] h =
  q_rcv h (.ref l0) 11 (q_rI (call 170 [.ref l0] h) q_t0 fun x2 h1 =>
  q_gI h1 (.ref l0) 11 4 fun x3 =>
  q_run qm_X11_word call 14 [.ref l0, .int (0 : Int32), .int (0 : Int32), .int x3] [] h1) := by
  refine (q_cut_eq _ _ [0, 14, 57, 67, 78] 200 _ _ _ _).trans ?_
  rfl
set_option maxRecDepth 20000 in
theorem k_X11_word_14 (call : Nat → List Value → qH → qR) (l0 : Nat) (l1 : Int32) (l2 : Int32) (l3 : Int32) (h : qH) : q_run qm_X11_word call 14 [.ref l0, .int l1, .int l2, .int l3] [] h =
  q_gI h (.ref l0) 11 3 fun x1 =>
  if q_cmp .ge l3 x1 = true then
    q_run qm_X11_word call 67 [.ref l0, .int l1, .int l2, .int l3] [] h
  else
    q_gR h (.ref l0) 11 9 fun r2 =>
    q_ald h (.ref r2) 0 l3 fun x3 =>
    q_rI (call 171 [.int x3] h) q_t0 fun x5 h4 =>
    if q_cmp .eq x5 (0 : Int32) = true then
      q_run qm_X11_word call 67 [.ref l0, .int l1, .int l2, .int l3] [] h4
    else
      if q_cmp .ge l2 (6 : Int32) = true then
        q_run qm_X11_word call 57 [.ref l0, .int l1, .int l2, .int l3] [.int (0 : Int32)] h4
      else
        q_gR h4 (.ref l0) 11 9 fun r6 =>
        q_ald h4 (.ref r6) 0 l3 fun x7 =>
        q_run qm_X11_word call 57 [.ref l0, .int l1, .int l2, .int l3] [.int ((l1 <<< ((5 : Int32) &&& 31)) ||| (x7 - (96 : Int32)))] h4 := by
  refine (q_cut_eq _ _ [0, 14, 57, 67, 78] 200 _ _ _ _).trans ?_
  rfl
set_option maxRecDepth 20000 in
theorem k_X11_word_57 (call : Nat → List Value → qH → qR) (l0 : Nat) (l1 : Value) (l2 : Int32) (l3 : Int32) (s0 : Int32) (h : qH) : q_run qm_X11_word call 57 [.ref l0, l1, .int l2, .int l3] [.int s0] h =
  q_run qm_X11_word call 14 [.ref l0, .int s0, .int (l2 + (1 : Int32)), .int (l3 + (1 : Int32))] [] h := by
  refine (q_cut_eq _ _ [0, 14, 57, 67, 78] 200 _ _ _ _).trans ?_
  rfl
set_option maxRecDepth 20000 in
theorem k_X11_word_67 (call : Nat → List Value → qH → qR) (l0 : Value) (l1 : Int32) (l2 : Int32) (l3 : Value) (h : qH) : q_run qm_X11_word call 67 [l0, .int l1, .int l2, l3] [] h =
  if q_cmp .le l2 (6 : Int32) = true then
    q_run qm_X11_word call 78 [l0, .int l1, .int l2, l3] [.int l1] h
  else
    q_run qm_X11_word call 78 [l0, .int l1, .int l2, l3] [.int (0 : Int32)] h := by
  refine (q_cut_eq _ _ [0, 14, 57, 67, 78] 200 _ _ _ _).trans ?_
  rfl
set_option maxRecDepth 20000 in
theorem k_X11_word_78 (call : Nat → List Value → qH → qR) (l0 : Value) (l1 : Value) (l2 : Value) (l3 : Value) (s0 : Int32) (h : qH) : q_run qm_X11_word call 78 [l0, l1, l2, l3] [.int s0] h =
  some (.inl (some (.int s0)), h) := by
  refine (q_cut_eq _ _ [0, 14, 57, 67, 78] 200 _ _ _ _).trans ?_
  rfl
set_option maxRecDepth 20000 in
theorem k_X11_of_0 (call : Nat → List Value → qH → qR) (l0 : UInt32) (h : qH) : q_run qm_X11_of call 0 [.float l0, q_junk, q_junk] [] h =
  q_run qm_X11_of call 4 [.float l0, .int (0 : Int32), .int (0 : Int32)] [] h := by
  refine (q_cut_eq _ _ [0, 4] 200 _ _ _ _).trans ?_
  rfl
set_option maxRecDepth 20000 in
theorem k_X11_of_4 (call : Nat → List Value → qH → qR) (l0 : UInt32) (l1 : Int32) (l2 : Int32) (h : qH) : q_run qm_X11_of call 4 [.float l0, .int l1, .int l2] [] h =
  q_slen (.float l0) fun x1 =>
  if q_cmp .ge l2 x1 = true then
    some (.inl (some (.int l1)), h)
  else
    q_schr (.float l0) l2 fun x2 =>
    q_run qm_X11_of call 4 [.float l0, .int ((l1 <<< ((5 : Int32) &&& 31)) ||| (x2 - (96 : Int32))), .int (l2 + (1 : Int32))] [] h := by
  refine (q_cut_eq _ _ [0, 4] 200 _ _ _ _).trans ?_
  rfl
set_option maxRecDepth 20000 in
theorem k_X11_pass_0 (call : Nat → List Value → qH → qR) (l0 : Nat) (h : qH) : q_run qm_X11_pass call 0 [.ref l0] [] h =
  q_gI h (.ref l0) 11 4 fun x1 =>
  q_gI h (.ref l0) 11 3 fun x2 =>
  if q_cmp .ge x1 x2 = true then
    q_run qm_X11_pass call 39 [.ref l0] [] h
  else
    q_gR h (.ref l0) 11 9 fun r3 =>
    q_gI h (.ref l0) 11 4 fun x4 =>
    q_ald h (.ref r3) 0 x4 fun x5 =>
    q_rI (call 171 [.int x5] h) q_t0 fun x7 h6 =>
    if q_cmp .eq x7 (0 : Int32) = true then
      q_run qm_X11_pass call 39 [.ref l0] [] h6
    else
      q_gI h6 (.ref l0) 11 4 fun x8 =>
      q_pV h6 (.ref l0) 11 4 (.int (x8 + (1 : Int32))) fun h9 =>
      q_run qm_X11_pass call 0 [.ref l0] [] h9 := by
  refine (q_cut_eq _ _ [0, 39] 200 _ _ _ _).trans ?_
  rfl
set_option maxRecDepth 20000 in
theorem k_X11_pass_39 (call : Nat → List Value → qH → qR) (l0 : Value) (h : qH) : q_run qm_X11_pass call 39 [l0] [] h =
  some (.inl none, h) := by
  refine (q_cut_eq _ _ [0, 39] 200 _ _ _ _).trans ?_
  rfl
set_option maxRecDepth 20000 in
theorem k_X11_readNumber_0 (call : Nat → List Value → qH → qR) (l0 : Nat) (l1 : Int32) (l2 : Int32) (h : qH) : q_run qm_X11_readNumber call 0 [.ref l0, .int l1, .int l2, q_junk, q_junk, q_junk] [] h =
  q_rcv h (.ref l0) 11 (q_rI (call 168 [.ref l0] h) q_t0 fun x2 h1 =>
  if q_cmp .ne x2 (0 : Int32) = true then
    q_rcv h1 (.ref l0) 11 (q_rI (call 170 [.ref l0] h1) q_t0 fun x4 h3 =>
    q_gI h3 (.ref l0) 11 4 fun x5 =>
    q_rI (call 172 [.int x4] h3) q_t0 fun x7 h6 =>
    if q_cmp .ne x7 (0 : Int32) = true then
      q_run qm_X11_readNumber call 41 [.ref l0, .int l1, .int l2, .int x4, .int x5, .int (0 : Int32)] [] h6
    else
      q_gI h6 (.ref l0) 11 4 fun x8 =>
      q_rcv h6 (.ref l0) 11 (q_rV (call 169 [.ref l0, .int (1 : Int32), .int x8] h6) q_t0 fun h9 =>
      some (.inl (some (.int (0 : Int32))), h9)))
  else
    some (.inl (some (.int (0 : Int32))), h1)) := by
  refine (q_cut_eq _ _ [0, 41, 99, 114, 126] 200 _ _ _ _).trans ?_
  rfl
set_option maxRecDepth 20000 in
theorem k_X11_readNumber_41 (call : Nat → List Value → qH → qR) (l0 : Nat) (l1 : Int32) (l2 : Int32) (l3 : Value) (l4 : Int32) (l5 : Int32) (h : qH) : q_run qm_X11_readNumber call 41 [.ref l0, .int l1, .int l2, l3, .int l4, .int l5] [] h =
  q_gI h (.ref l0) 11 4 fun x1 =>
  q_gI h (.ref l0) 11 3 fun x2 =>
  if q_cmp .ge x1 x2 = true then
    q_run qm_X11_readNumber call 114 [.ref l0, .int l1, .int l2, l3, .int l4, .int l5] [] h
  else
    q_gR h (.ref l0) 11 9 fun r3 =>
    q_gI h (.ref l0) 11 4 fun x4 =>
    q_ald h (.ref r3) 0 x4 fun x5 =>
    q_rI (call 172 [.int x5] h) q_t0 fun x7 h6 =>
    if q_cmp .eq x7 (0 : Int32) = true then
      q_run qm_X11_readNumber call 114 [.ref l0, .int l1, .int l2, l3, .int l4, .int l5] [] h6
    else
      if q_cmp .le l5 (9999 : Int32) = true then
        q_gR h6 (.ref l0) 11 9 fun r8 =>
        q_gI h6 (.ref l0) 11 4 fun x9 =>
        q_ald h6 (.ref r8) 0 x9 fun x10 =>
        q_run qm_X11_readNumber call 99 [.ref l0, .int l1, .int l2, l3, .int l4, .int l5] [.int ((((10 : Int32) * l5) + x10) - (48 : Int32))] h6
      else
        q_run qm_X11_readNumber call 99 [.ref l0, .int l1, .int l2, l3, .int l4, .int l5] [.int (10000 : Int32)] h6 := by
  refine (q_cut_eq _ _ [0, 41, 99, 114, 126] 200 _ _ _ _).trans ?_
  rfl
set_option maxRecDepth 20000 in
theorem k_X11_readNumber_99 (call : Nat → List Value → qH → qR) (l0 : Nat) (l1 : Int32) (l2 : Int32) (l3 : Value) (l4 : Int32) (l5 : Value) (s0 : Int32) (h : qH) : q_run qm_X11_readNumber call 99 [.ref l0, .int l1, .int l2, l3, .int l4, l5] [.int s0] h =
  q_gI h (.ref l0) 11 4 fun x1 =>
  q_pV h (.ref l0) 11 4 (.int (x1 + (1 : Int32))) fun h2 =>
  q_run qm_X11_readNumber call 41 [.ref l0, .int l1, .int l2, l3, .int l4, .int s0] [] h2 := by
  refine (q_cut_eq _ _ [0, 41, 99, 114, 126] 200 _ _ _ _).trans ?_
  rfl
set_option maxRecDepth 20000 in
theorem k_X11_readNumber_114 (call : Nat → List Value → qH → qR) (l0 : Nat) (l1 : Int32) (l2 : Int32) (l3 : Value) (l4 : Int32) (l5 : Int32) (h : qH) : q_run qm_X11_readNumber call 114 [.ref l0, .int l1, .int l2, l3, .int l4, .int l5] [] h =
  if q_cmp .lt l5 l1 = true then
    q_run qm_X11_readNumber call 126 [.ref l0, .int l1, .int l2, l3, .int l4, .int l5] [] h
  else
    if q_cmp .le l5 l2 = true then
      some (.inl (some (.int l5)), h)
    else
      q_run qm_X11_readNumber call 126 [.ref l0, .int l1, .int l2, l3, .int l4, .int l5] [] h := by
  refine (q_cut_eq _ _ [0, 41, 99, 114, 126] 200 _ _ _ _).trans ?_
  rfl
set_option maxRecDepth 20000 in
theorem k_X11_readNumber_126 (call : Nat → List Value → qH → qR) (l0 : Nat) (l1 : Value) (l2 : Value) (l3 : Value) (l4 : Int32) (l5 : Value) (h : qH) : q_run qm_X11_readNumber call 126 [.ref l0, l1, l2, l3, .int l4, l5] [] h =
  q_rcv h (.ref l0) 11 (q_rV (call 169 [.ref l0, .int (2 : Int32), .int l4] h) q_t0 fun h1 =>
  some (.inl (some (.int (0 : Int32))), h1)) := by
  refine (q_cut_eq _ _ [0, 41, 99, 114, 126] 200 _ _ _ _).trans ?_
  rfl
set_option maxRecDepth 20000 in
theorem k_X11_sign_0 (call : Nat → List Value → qH → qR) (l0 : Nat) (l1 : Int32) (h : qH) : q_run qm_X11_sign call 0 [.ref l0, .int l1] [] h =
  q_rcv h (.ref l0) 11 (q_rI (call 168 [.ref l0] h) q_t0 fun x2 h1 =>
  if q_cmp .eq x2 (0 : Int32) = true then
    q_run qm_X11_sign call 24 [.ref l0, .int l1] [] h1
  else
    q_rcv h1 (.ref l0) 11 (q_rI (call 170 [.ref l0] h1) q_t0 fun x4 h3 =>
    if q_cmp .eq x4 l1 = true then
      q_run qm_X11_sign call 24 [.ref l0, .int l1] [] h3
    else
      q_gI h3 (.ref l0) 11 4 fun x5 =>
      q_rcv h3 (.ref l0) 11 (q_rV (call 169 [.ref l0, .int (1 : Int32), .int x5] h3) q_t0 fun h6 =>
      q_run qm_X11_sign call 24 [.ref l0, .int l1] [] h6))) := by
  refine (q_cut_eq _ _ [0, 24, 41] 200 _ _ _ _).trans ?_
  rfl
set_option maxRecDepth 20000 in
theorem k_X11_sign_24 (call : Nat → List Value → qH → qR) (l0 : Nat) (l1 : Value) (h : qH) : q_run qm_X11_sign call 24 [.ref l0, l1] [] h =
  q_rcv h (.ref l0) 11 (q_rI (call 168 [.ref l0] h) q_t0 fun x2 h1 =>
  if q_cmp .eq x2 (0 : Int32) = true then
    q_run qm_X11_sign call 41 [.ref l0, l1] [] h1
  else
    q_gI h1 (.ref l0) 11 4 fun x3 =>
    q_pV h1 (.ref l0) 11 4 (.int (x3 + (1 : Int32))) fun h4 =>
    q_run qm_X11_sign call 41 [.ref l0, l1] [] h4) := by
  refine (q_cut_eq _ _ [0, 24, 41] 200 _ _ _ _).trans ?_
  rfl
set_option maxRecDepth 20000 in
theorem k_X11_sign_41 (call : Nat → List Value → qH → qR) (l0 : Value) (l1 : Value) (h : qH) : q_run qm_X11_sign call 41 [l0, l1] [] h =
  some (.inl none, h) := by
  refine (q_cut_eq _ _ [0, 24, 41] 200 _ _ _ _).trans ?_
  rfl
set_option maxRecDepth 20000 in
theorem k_X11_isMore_0 (call : Nat → List Value → qH → qR) (l0 : Nat) (h : qH) : q_run qm_X11_isMore call 0 [.ref l0] [] h =
  q_rcv h (.ref l0) 11 (q_rI (call 170 [.ref l0] h) q_t0 fun x2 h1 =>
  q_gI h1 (.ref l0) 11 4 fun x3 =>
  q_gI h1 (.ref l0) 11 3 fun x4 =>
  if q_cmp .ge x3 x4 = true then
    q_run qm_X11_isMore call 21 [.ref l0] [.int (0 : Int32)] h1
  else
    q_run qm_X11_isMore call 21 [.ref l0] [.int (1 : Int32)] h1) := by
  refine (q_cut_eq _ _ [0, 21] 200 _ _ _ _).trans ?_
  rfl
set_option maxRecDepth 20000 in
theorem k_X11_isMore_21 (call : Nat → List Value → qH → qR) (l0 : Value) (s0 : Int32) (h : qH) : q_run qm_X11_isMore call 21 [l0] [.int s0] h =
  q_boo true s0 fun z => some (.inl (some (.int z)), h) := by
  refine (q_cut_eq _ _ [0, 21] 200 _ _ _ _).trans ?_
  rfl
set_option maxRecDepth 20000 in
theorem k_X11_begins_0 (call : Nat → List Value → qH → qR) (l0 : Nat) (l1 : Int32) (h : qH) : q_run qm_X11_begins call 0 [.ref l0, .int l1] [] h =
  q_pV h (.ref l0) 11 2 (.int (0 : Int32)) fun h1 =>
  q_pV h1 (.ref l0) 11 8 (.int (-1 : Int32)) fun h2 =>
  q_pV h2 (.ref l0) 11 3 (.int l1) fun h3 =>
  q_pV h3 (.ref l0) 11 4 (.int (0 : Int32)) fun h4 =>
  q_pV h4 (.ref l0) 11 5 (.int (-1 : Int32)) fun h5 =>
  q_pV h5 (.ref l0) 11 7 (.int (0 : Int32)) fun h6 =>
  some (.inl none, h6) := by
  refine (q_cut_eq _ _ [0] 200 _ _ _ _).trans ?_
  rfl
set_option maxRecDepth 20000 in
theorem k_X11_result_0 (call : Nat → List Value → qH → qR) (l0 : Nat) (l1 : Int32) (h : qH) : q_run qm_X11_result call 0 [.ref l0, .int l1] [] h =
  q_gI h (.ref l0) 11 5 fun x1 =>
  q_pV h (.ref l0) 11 8 (.int x1) fun h2 =>
  q_rcv h2 (.ref l0) 11 (q_rI (call 168 [.ref l0] h2) q_t0 fun x4 h3 =>
  if q_cmp .eq x4 (0 : Int32) = true then
    q_gI h3 (.ref l0) 11 6 fun x5 =>
    q_run qm_X11_result call 26 [.ref l0, .int l1] [.int (x5 - (10 : Int32))] h3
  else
    q_run qm_X11_result call 26 [.ref l0, .int l1] [.int l1] h3) := by
  refine (q_cut_eq _ _ [0, 26] 200 _ _ _ _).trans ?_
  rfl
set_option maxRecDepth 20000 in
theorem k_X11_result_26 (call : Nat → List Value → qH → qR) (l0 : Value) (l1 : Value) (s0 : Int32) (h : qH) : q_run qm_X11_result call 26 [l0, l1] [.int s0] h =
  some (.inl (some (.int s0)), h) := by
  refine (q_cut_eq _ _ [0, 26] 200 _ _ _ _).trans ?_
  rfl
set_option maxRecDepth 20000 in
theorem k_X11_fault_0 (call : Nat → List Value → qH → qR) (l0 : Nat) (h : qH) : q_run qm_X11_fault call 0 [.ref l0] [] h =
  q_pV h (.ref l0) 11 0 (.int (0 : Int32)) fun h1 =>
  q_gI h1 (.ref l0) 11 8 fun x2 =>
  some (.inl (some (.int x2)), h1) := by
  refine (q_cut_eq _ _ [0] 200 _ _ _ _).trans ?_
  rfl
set_option maxRecDepth 20000 in
theorem k_X11_copies_0 (call : Nat → List Value → qH → qR) (l0 : Nat) (l1 : Nat) (l2 : Nat) (l3 : Int32) (h : qH) : q_run qm_X11_copies call 0 [.ref l0, .ref l1, .ref l2, .int l3, q_junk] [] h =
  q_run qm_X11_copies call 3 [.ref l0, .ref l1, .ref l2, .int l3, .int (0 : Int32)] [] h := by
  refine (q_cut_eq _ _ [0, 3] 200 _ _ _ _).trans ?_
  rfl
set_option maxRecDepth 20000 in
theorem k_X11_copies_3 (call : Nat → List Value → qH → qR) (l0 : Value) (l1 : Nat) (l2 : Nat) (l3 : Int32) (l4 : Int32) (h : qH) : q_run qm_X11_copies call 3 [l0, .ref l1, .ref l2, .int l3, .int l4] [] h =
  if q_cmp .ge l4 l3 = true then
    some (.inl none, h)
  else
    q_ald h (.ref l1) 0 l4 fun x1 =>
    q_ast h (.ref l2) 0 l4 x1 fun h2 =>
    q_run qm_X11_copies call 3 [l0, .ref l1, .ref l2, .int l3, .int (l4 + (1 : Int32))] [] h2 := by
  refine (q_cut_eq _ _ [0, 3] 200 _ _ _ _).trans ?_
  rfl
set_option maxRecDepth 20000 in
theorem k_X11_clears_0 (call : Nat → List Value → qH → qR) (l0 : Nat) (h : qH) : q_run qm_X11_clears call 0 [.ref l0] [] h =
  q_pV h (.ref l0) 11 16 (.int (0 : Int32)) fun h1 =>
  q_pV h1 (.ref l0) 11 17 (.int (0 : Int32)) fun h2 =>
  q_pV h2 (.ref l0) 11 18 (.int (0 : Int32)) fun h3 =>
  q_pV h3 (.ref l0) 11 19 (.int (12 : Int32)) fun h4 =>
  q_pV h4 (.ref l0) 11 20 (.int (3 : Int32)) fun h5 =>
  some (.inl none, h5) := by
  refine (q_cut_eq _ _ [0] 200 _ _ _ _).trans ?_
  rfl
set_option maxRecDepth 20000 in
theorem k_X11_sets_0 (call : Nat → List Value → qH → qR) (l0 : Nat) (h : qH) : q_run qm_X11_sets call 0 [.ref l0, q_junk, q_junk] [] h =
  q_gI h (.ref l0) 11 16 fun x1 =>
  q_pV h (.ref l0) 11 21 (.int x1) fun h2 =>
  q_gI h2 (.ref l0) 11 17 fun x3 =>
  q_pV h2 (.ref l0) 11 22 (.int x3) fun h4 =>
  q_gI h4 (.ref l0) 11 18 fun x5 =>
  q_pV h4 (.ref l0) 11 23 (.int x5) fun h6 =>
  q_gI h6 (.ref l0) 11 19 fun x7 =>
  q_pV h6 (.ref l0) 11 24 (.int x7) fun h8 =>
  q_gI h8 (.ref l0) 11 20 fun x9 =>
  q_pV h8 (.ref l0) 11 25 (.int x9) fun h10 =>
  q_gR h10 (.ref l0) 11 10 fun r11 =>
  q_gR h10 (.ref l0) 11 13 fun r12 =>
  q_rcv h10 (.ref l0) 11 (q_rV (call 182 [.ref l0, .ref r11, .ref r12, .int (5 : Int32)] h10) q_t0 fun h13 =>
  q_gR h13 (.ref l0) 11 11 fun r15 =>
  q_gR h13 (.ref l0) 11 14 fun r16 =>
  q_rcv h13 (.ref l0) 11 (q_rV (call 182 [.ref l0, .ref r15, .ref r16, .int (30 : Int32)] h13) q_t0 fun h17 =>
  q_gR h17 (.ref l0) 11 12 fun r19 =>
  q_gR h17 (.ref l0) 11 15 fun r20 =>
  q_rcv h17 (.ref l0) 11 (q_rV (call 182 [.ref l0, .ref r19, .ref r20, .int (8 : Int32)] h17) q_t0 fun h21 =>
  q_pV h21 (.ref l0) 11 32 (.int (0 : Int32)) fun h23 =>
  q_pV h23 (.ref l0) 11 48 (.int (0 : Int32)) fun h24 =>
  q_run qm_X11_sets call 91 [.ref l0, q_junk, q_junk] [] h24))) := by
  refine (q_cut_eq _ _ [0, 91, 108, 129, 157, 196, 212] 200 _ _ _ _).trans ?_
  rfl
set_option maxRecDepth 20000 in
theorem k_X11_sets_91 (call : Nat → List Value → qH → qR) (l0 : Nat) (l1 : Value) (l2 : Value) (h : qH) : q_run qm_X11_sets call 91 [.ref l0, l1, l2] [] h =
  q_pV h (.ref l0) 11 37 (.int (0 : Int32)) fun h1 =>
  q_pV h1 (.ref l0) 11 61 (.int (0 : Int32)) fun h2 =>
  q_pV h2 (.ref l0) 11 38 (.int (0 : Int32)) fun h3 =>
  q_run qm_X11_sets call 108 [.ref l0, .int (0 : Int32), l2] [] h3 := by
  refine (q_cut_eq _ _ [0, 91, 108, 129, 157, 196, 212] 200 _ _ _ _).trans ?_
  rfl
set_option maxRecDepth 20000 in
theorem k_X11_sets_108 (call : Nat → List Value → qH → qR) (l0 : Nat) (l1 : Int32) (l2 : Value) (h : qH) : q_run qm_X11_sets call 108 [.ref l0, .int l1, l2] [] h =
  if q_cmp .ge l1 (47 : Int32) = true then
    q_run qm_X11_sets call 129 [.ref l0, .int (0 : Int32), l2] [] h
  else
    q_gR h (.ref l0) 11 42 fun r1 =>
    q_ast h (.ref r1) 0 l1 (0 : Int32) fun h2 =>
    q_run qm_X11_sets call 108 [.ref l0, .int (l1 + (1 : Int32)), l2] [] h2 := by
  refine (q_cut_eq _ _ [0, 91, 108, 129, 157, 196, 212] 200 _ _ _ _).trans ?_
  rfl
set_option maxRecDepth 20000 in
theorem k_X11_sets_129 (call : Nat → List Value → qH → qR) (l0 : Nat) (l1 : Int32) (l2 : Value) (h : qH) : q_run qm_X11_sets call 129 [.ref l0, .int l1, l2] [] h =
  q_gI h (.ref l0) 11 22 fun x1 =>
  if q_cmp .ge l1 x1 = true then
    q_run qm_X11_sets call 212 [.ref l0, .int (0 : Int32), l2] [] h
  else
    q_gR h (.ref l0) 11 42 fun r2 =>
    q_gR h (.ref l0) 11 14 fun r3 =>
    q_ald h (.ref r3) 0 (((3 : Int32) * l1) + (2 : Int32)) fun x4 =>
    q_ast h (.ref r2) 0 ((0 : Int32) + l1) x4 fun h5 =>
    q_run qm_X11_sets call 157 [.ref l0, .int l1, .int (0 : Int32)] [] h5 := by
  refine (q_cut_eq _ _ [0, 91, 108, 129, 157, 196, 212] 200 _ _ _ _).trans ?_
  rfl
set_option maxRecDepth 20000 in
theorem k_X11_sets_157 (call : Nat → List Value → qH → qR) (l0 : Nat) (l1 : Int32) (l2 : Int32) (h : qH) : q_run qm_X11_sets call 157 [.ref l0, .int l1, .int l2] [] h =
  if q_cmp .ge l2 l1 = true then
    q_run qm_X11_sets call 129 [.ref l0, .int (l1 + (1 : Int32)), .int l2] [] h
  else
    q_gR h (.ref l0) 11 42 fun r1 =>
    q_ald h (.ref r1) 0 ((10 : Int32) + l1) fun x2 =>
    q_gR h (.ref l0) 11 42 fun r3 =>
    q_ald h (.ref r3) 0 ((0 : Int32) + l2) fun x4 =>
    q_gR h (.ref l0) 11 42 fun r5 =>
    q_ald h (.ref r5) 0 ((0 : Int32) + l1) fun x6 =>
    if q_cmp .ne x4 x6 = true then
      q_run qm_X11_sets call 196 [.ref l0, .int l1, .int l2] [.int (0 : Int32), .int x2, .int ((10 : Int32) + l1), .ref r1] h
    else
      q_run qm_X11_sets call 196 [.ref l0, .int l1, .int l2] [.int (1 : Int32), .int x2, .int ((10 : Int32) + l1), .ref r1] h := by
  refine (q_cut_eq _ _ [0, 91, 108, 129, 157, 196, 212] 200 _ _ _ _).trans ?_
  rfl
set_option maxRecDepth 20000 in
theorem k_X11_sets_196 (call : Nat → List Value → qH → qR) (l0 : Nat) (l1 : Int32) (l2 : Int32) (s0 : Nat) (s1 : Int32) (s2 : Int32) (s3 : Int32) (h : qH) : q_run qm_X11_sets call 196 [.ref l0, .int l1, .int l2] [.int s3, .int s2, .int s1, .ref s0] h =
  q_ast h (.ref s0) 0 s1 (s2 + s3) fun h1 =>
  q_run qm_X11_sets call 157 [.ref l0, .int l1, .int (l2 + (1 : Int32))] [] h1 := by
  refine (q_cut_eq _ _ [0, 91, 108, 129, 157, 196, 212] 200 _ _ _ _).trans ?_
  rfl
set_option maxRecDepth 20000 in
theorem k_X11_sets_212 (call : Nat → List Value → qH → qR) (l0 : Nat) (l1 : Int32) (l2 : Value) (h : qH) : q_run qm_X11_sets call 212 [.ref l0, .int l1, l2] [] h =
  q_gI h (.ref l0) 11 21 fun x1 =>
  if q_cmp .ge l1 x1 = true then
    some (.inl none, h)
  else
    q_gR h (.ref l0) 11 42 fun r2 =>
    q_gR h (.ref l0) 11 13 fun r3 =>
    q_ald h (.ref r3) 0 l1 fun x4 =>
    q_ast h (.ref r2) 0 ((40 : Int32) + l1) x4 fun h5 =>
    q_run qm_X11_sets call 212 [.ref l0, .int (l1 + (1 : Int32)), l2] [] h5 := by
  refine (q_cut_eq _ _ [0, 91, 108, 129, 157, 196, 212] 200 _ _ _ _).trans ?_
  rfl
set_option maxRecDepth 20000 in
theorem k_X11_isRow_0 (call : Nat → List Value → qH → qR) (l0 : Int32) (h : qH) : q_run qm_X11_isRow call 0 [.int l0] [] h =
  q_rI (call 174 [.float 0] h) q_t0 fun x2 h1 =>
  if q_cmp .eq l0 x2 = true then
    q_run qm_X11_isRow call 45 [.int l0] [] h1
  else
    q_rI (call 174 [.float 3] h1) q_t0 fun x4 h3 =>
    if q_cmp .eq l0 x4 = true then
      q_run qm_X11_isRow call 45 [.int l0] [] h3
    else
      q_rI (call 174 [.float 4] h3) q_t0 fun x6 h5 =>
      if q_cmp .eq l0 x6 = true then
        q_run qm_X11_isRow call 45 [.int l0] [] h5
      else
        q_rI (call 174 [.float 1] h5) q_t0 fun x8 h7 =>
        if q_cmp .eq l0 x8 = true then
          q_run qm_X11_isRow call 45 [.int l0] [] h7
        else
          q_rI (call 174 [.float 2] h7) q_t0 fun x10 h9 =>
          if q_cmp .ne l0 x10 = true then
            q_run qm_X11_isRow call 50 [.int l0] [.int (0 : Int32)] h9
          else
            q_run qm_X11_isRow call 45 [.int l0] [] h9 := by
  refine (q_cut_eq _ _ [0, 45, 50] 200 _ _ _ _).trans ?_
  rfl
set_option maxRecDepth 20000 in
theorem k_X11_isRow_45 (call : Nat → List Value → qH → qR) (l0 : Value) (h : qH) : q_run qm_X11_isRow call 45 [l0] [] h =
  q_run qm_X11_isRow call 50 [l0] [.int (1 : Int32)] h := by
  refine (q_cut_eq _ _ [0, 45, 50] 200 _ _ _ _).trans ?_
  rfl
set_option maxRecDepth 20000 in
theorem k_X11_isRow_50 (call : Nat → List Value → qH → qR) (l0 : Value) (s0 : Int32) (h : qH) : q_run qm_X11_isRow call 50 [l0] [.int s0] h =
  q_boo true s0 fun z => some (.inl (some (.int z)), h) := by
  refine (q_cut_eq _ _ [0, 45, 50] 200 _ _ _ _).trans ?_
  rfl
set_option maxRecDepth 20000 in
theorem k_X11_readCup_0 (call : Nat → List Value → qH → qR) (l0 : Nat) (h : qH) : q_run qm_X11_readCup call 0 [.ref l0, q_junk, q_junk, q_junk] [] h =
  q_rcv h (.ref l0) 11 (q_rI (call 170 [.ref l0] h) q_t0 fun x2 h1 =>
  q_gI h1 (.ref l0) 11 4 fun x3 =>
  q_rcv h1 (.ref l0) 11 (q_rI (call 176 [.ref l0, .int (0 : Int32), .int (29 : Int32)] h1) q_t0 fun x5 h4 =>
  q_run qm_X11_readCup call 20 [.ref l0, .int x3, .int x5, .int (0 : Int32)] [] h4)) := by
  refine (q_cut_eq _ _ [0, 20, 53, 59] 200 _ _ _ _).trans ?_
  rfl
set_option maxRecDepth 20000 in
theorem k_X11_readCup_20 (call : Nat → List Value → qH → qR) (l0 : Nat) (l1 : Int32) (l2 : Int32) (l3 : Int32) (h : qH) : q_run qm_X11_readCup call 20 [.ref l0, .int l1, .int l2, .int l3] [] h =
  q_gI h (.ref l0) 11 18 fun x1 =>
  if q_cmp .ge l3 x1 = true then
    q_run qm_X11_readCup call 59 [.ref l0, .int l1, .int l2, .int l3] [] h
  else
    q_rcv h (.ref l0) 11 (q_rI (call 168 [.ref l0] h) q_t0 fun x3 h2 =>
    if q_cmp .eq x3 (0 : Int32) = true then
      q_run qm_X11_readCup call 59 [.ref l0, .int l1, .int l2, .int l3] [] h2
    else
      q_gR h2 (.ref l0) 11 12 fun r4 =>
      q_ald h2 (.ref r4) 0 ((2 : Int32) * l3) fun x5 =>
      if q_cmp .ne x5 l2 = true then
        q_run qm_X11_readCup call 53 [.ref l0, .int l1, .int l2, .int l3] [] h2
      else
        q_rcv h2 (.ref l0) 11 (q_rV (call 169 [.ref l0, .int (2 : Int32), .int l1] h2) q_t0 fun h6 =>
        q_run qm_X11_readCup call 53 [.ref l0, .int l1, .int l2, .int l3] [] h6)) := by
  refine (q_cut_eq _ _ [0, 20, 53, 59] 200 _ _ _ _).trans ?_
  rfl
set_option maxRecDepth 20000 in
theorem k_X11_readCup_53 (call : Nat → List Value → qH → qR) (l0 : Nat) (l1 : Int32) (l2 : Int32) (l3 : Int32) (h : qH) : q_run qm_X11_readCup call 53 [.ref l0, .int l1, .int l2, .int l3] [] h =
  q_run qm_X11_readCup call 20 [.ref l0, .int l1, .int l2, .int (l3 + (1 : Int32))] [] h := by
  refine (q_cut_eq _ _ [0, 20, 53, 59] 200 _ _ _ _).trans ?_
  rfl
set_option maxRecDepth 20000 in
theorem k_X11_readCup_59 (call : Nat → List Value → qH → qR) (l0 : Nat) (l1 : Value) (l2 : Int32) (l3 : Value) (h : qH) : q_run qm_X11_readCup call 59 [.ref l0, l1, .int l2, l3] [] h =
  q_gR h (.ref l0) 11 12 fun r1 =>
  q_gI h (.ref l0) 11 18 fun x2 =>
  q_ast h (.ref r1) 0 ((2 : Int32) * x2) l2 fun h3 =>
  q_gR h3 (.ref l0) 11 12 fun r4 =>
  q_gI h3 (.ref l0) 11 18 fun x5 =>
  q_rcv h3 (.ref l0) 11 (q_rI (call 176 [.ref l0, .int (1 : Int32), .int (99 : Int32)] h3) q_t0 fun x7 h6 =>
  q_ast h6 (.ref r4) 0 (((2 : Int32) * x5) + (1 : Int32)) x7 fun h8 =>
  q_gI h8 (.ref l0) 11 18 fun x9 =>
  q_pV h8 (.ref l0) 11 18 (.int (x9 + (1 : Int32))) fun h10 =>
  some (.inl none, h10)) := by
  refine (q_cut_eq _ _ [0, 20, 53, 59] 200 _ _ _ _).trans ?_
  rfl
set_option maxRecDepth 20000 in
theorem k_X11_readRow_0 (call : Nat → List Value → qH → qR) (l0 : Nat) (l1 : Int32) (h : qH) : q_run qm_X11_readRow call 0 [.ref l0, .int l1] [] h =
  q_rI (call 174 [.float 0] h) q_t0 fun x2 h1 =>
  if q_cmp .ne l1 x2 = true then
    q_rI (call 174 [.float 3] h1) q_t0 fun x4 h3 =>
    if q_cmp .ne l1 x4 = true then
      q_rI (call 174 [.float 4] h3) q_t0 fun x6 h5 =>
      if q_cmp .ne l1 x6 = true then
        q_rI (call 174 [.float 1] h5) q_t0 fun x8 h7 =>
        if q_cmp .ne l1 x8 = true then
          q_rcv h7 (.ref l0) 11 (q_rV (call 186 [.ref l0] h7) q_t0 fun h9 =>
          q_run qm_X11_readRow call 173 [.ref l0, .int l1] [] h9)
        else
          q_run qm_X11_readRow call 94 [.ref l0, .int l1] [] h7
      else
        q_rcv h5 (.ref l0) 11 (q_rI (call 176 [.ref l0, .int (0 : Int32), .int (9 : Int32)] h5) q_t0 fun x12 h11 =>
        q_pV h11 (.ref l0) 11 20 (.int x12) fun h13 =>
        q_run qm_X11_readRow call 173 [.ref l0, .int l1] [] h13)
    else
      q_rcv h3 (.ref l0) 11 (q_rI (call 176 [.ref l0, .int (4 : Int32), .int (30 : Int32)] h3) q_t0 fun x15 h14 =>
      q_pV h14 (.ref l0) 11 19 (.int x15) fun h16 =>
      q_run qm_X11_readRow call 173 [.ref l0, .int l1] [] h16)
  else
    q_gR h1 (.ref l0) 11 10 fun r17 =>
    q_gI h1 (.ref l0) 11 16 fun x18 =>
    q_rcv h1 (.ref l0) 11 (q_rI (call 176 [.ref l0, .int (0 : Int32), .int (999 : Int32)] h1) q_t0 fun x20 h19 =>
    q_ast h19 (.ref r17) 0 x18 x20 fun h21 =>
    q_gI h21 (.ref l0) 11 16 fun x22 =>
    q_pV h21 (.ref l0) 11 16 (.int (x22 + (1 : Int32))) fun h23 =>
    q_run qm_X11_readRow call 173 [.ref l0, .int l1] [] h23) := by
  refine (q_cut_eq _ _ [0, 94, 166, 173] 200 _ _ _ _).trans ?_
  rfl
set_option maxRecDepth 20000 in
theorem k_X11_readRow_94 (call : Nat → List Value → qH → qR) (l0 : Nat) (l1 : Value) (h : qH) : q_run qm_X11_readRow call 94 [.ref l0, l1] [] h =
  q_gR h (.ref l0) 11 11 fun r1 =>
  q_gI h (.ref l0) 11 17 fun x2 =>
  q_gI h (.ref l0) 11 16 fun x3 =>
  q_rcv h (.ref l0) 11 (q_rI (call 176 [.ref l0, .int (0 : Int32), .int (x3 - (1 : Int32))] h) q_t0 fun x5 h4 =>
  q_ast h4 (.ref r1) 0 ((3 : Int32) * x2) x5 fun h6 =>
  q_gR h6 (.ref l0) 11 11 fun r7 =>
  q_gI h6 (.ref l0) 11 17 fun x8 =>
  q_rcv h6 (.ref l0) 11 (q_rI (call 176 [.ref l0, .int (1 : Int32), .int (9 : Int32)] h6) q_t0 fun x10 h9 =>
  q_ast h9 (.ref r7) 0 (((3 : Int32) * x8) + (1 : Int32)) x10 fun h11 =>
  q_gR h11 (.ref l0) 11 11 fun r12 =>
  q_gI h11 (.ref l0) 11 17 fun x13 =>
  q_rcv h11 (.ref l0) 11 (q_rI (call 176 [.ref l0, .int (0 : Int32), .int (29 : Int32)] h11) q_t0 fun x15 h14 =>
  q_ast h14 (.ref r12) 0 (((3 : Int32) * x13) + (2 : Int32)) x15 fun h16 =>
  q_gI h16 (.ref l0) 11 17 fun x17 =>
  q_pV h16 (.ref l0) 11 17 (.int (x17 + (1 : Int32))) fun h18 =>
  q_run qm_X11_readRow call 166 [.ref l0, l1] [] h18))) := by
  refine (q_cut_eq _ _ [0, 94, 166, 173] 200 _ _ _ _).trans ?_
  rfl
set_option maxRecDepth 20000 in
theorem k_X11_readRow_166 (call : Nat → List Value → qH → qR) (l0 : Value) (l1 : Value) (h : qH) : q_run qm_X11_readRow call 166 [l0, l1] [] h =
  q_run qm_X11_readRow call 173 [l0, l1] [] h := by
  refine (q_cut_eq _ _ [0, 94, 166, 173] 200 _ _ _ _).trans ?_
  rfl
set_option maxRecDepth 20000 in
theorem k_X11_readRow_173 (call : Nat → List Value → qH → qR) (l0 : Value) (l1 : Value) (h : qH) : q_run qm_X11_readRow call 173 [l0, l1] [] h =
  some (.inl none, h) := by
  refine (q_cut_eq _ _ [0, 94, 166, 173] 200 _ _ _ _).trans ?_
  rfl
set_option maxRecDepth 20000 in
theorem k_X11_liesOnFelt_0 (call : Nat → List Value → qH → qR) (l0 : Nat) (h : qH) : q_run qm_X11_liesOnFelt call 0 [.ref l0, q_junk] [] h =
  q_run qm_X11_liesOnFelt call 2 [.ref l0, .int (0 : Int32)] [] h := by
  refine (q_cut_eq _ _ [0, 2, 37] 200 _ _ _ _).trans ?_
  rfl
set_option maxRecDepth 20000 in
theorem k_X11_liesOnFelt_2 (call : Nat → List Value → qH → qR) (l0 : Nat) (l1 : Int32) (h : qH) : q_run qm_X11_liesOnFelt call 2 [.ref l0, .int l1] [] h =
  q_gI h (.ref l0) 11 17 fun x1 =>
  if q_cmp .ge l1 x1 = true then
    q_run qm_X11_liesOnFelt call 37 [.ref l0, .int (0 : Int32)] [] h
  else
    q_gR h (.ref l0) 11 11 fun r2 =>
    q_ald h (.ref r2) 0 (((3 : Int32) * l1) + (2 : Int32)) fun x3 =>
    q_gI h (.ref l0) 11 19 fun x4 =>
    if q_cmp .lt x3 x4 = true then
      q_run qm_X11_liesOnFelt call 2 [.ref l0, .int (l1 + (1 : Int32))] [] h
    else
      q_boo true (0 : Int32) fun z => some (.inl (some (.int z)), h) := by
  refine (q_cut_eq _ _ [0, 2, 37] 200 _ _ _ _).trans ?_
  rfl
set_option maxRecDepth 20000 in
theorem k_X11_liesOnFelt_37 (call : Nat → List Value → qH → qR) (l0 : Nat) (l1 : Int32) (h : qH) : q_run qm_X11_liesOnFelt call 37 [.ref l0, .int l1] [] h =
  q_gI h (.ref l0) 11 18 fun x1 =>
  if q_cmp .ge l1 x1 = true then
    q_boo true (1 : Int32) fun z => some (.inl (some (.int z)), h)
  else
    q_gR h (.ref l0) 11 12 fun r2 =>
    q_ald h (.ref r2) 0 ((2 : Int32) * l1) fun x3 =>
    q_gI h (.ref l0) 11 19 fun x4 =>
    if q_cmp .lt x3 x4 = true then
      q_run qm_X11_liesOnFelt call 37 [.ref l0, .int (l1 + (1 : Int32))] [] h
    else
      q_boo true (0 : Int32) fun z => some (.inl (some (.int z)), h) := by
  refine (q_cut_eq _ _ [0, 2, 37] 200 _ _ _ _).trans ?_
  rfl
set_option maxRecDepth 20000 in
theorem k_X11_room_0 (call : Nat → List Value → qH → qR) (l0 : Nat) (l1 : Int32) (h : qH) : q_run qm_X11_room call 0 [.ref l0, .int l1, q_junk, q_junk] [] h =
  q_pV h (.ref l0) 11 0 (.int (0 : Int32)) fun h1 =>
  if q_cmp .lt l1 (0 : Int32) = true then
    q_run qm_X11_room call 22 [.ref l0, .int l1, q_junk, q_junk] [.ref l0] h1
  else
    q_gI h1 (.ref l0) 11 2 fun x2 =>
    if q_cmp .gt l1 x2 = true then
      q_run qm_X11_room call 22 [.ref l0, .int l1, q_junk, q_junk] [.ref l0] h1
    else
      q_run qm_X11_room call 23 [.ref l0, .int l1, q_junk, q_junk] [.int (1 : Int32), .ref l0] h1 := by
  refine (q_cut_eq _ _ [0, 22, 23, 44, 105, 123, 140, 149, 180, 200, 221] 200 _ _ _ _).trans ?_
  rfl
set_option maxRecDepth 20000 in
theorem k_X11_room_22 (call : Nat → List Value → qH → qR) (l0 : Nat) (l1 : Int32) (l2 : Value) (l3 : Value) (s0 : Nat) (h : qH) : q_run qm_X11_room call 22 [.ref l0, .int l1, l2, l3] [.ref s0] h =
  q_run qm_X11_room call 23 [.ref l0, .int l1, l2, l3] [.int (0 : Int32), .ref s0] h := by
  refine (q_cut_eq _ _ [0, 22, 23, 44, 105, 123, 140, 149, 180, 200, 221] 200 _ _ _ _).trans ?_
  rfl
set_option maxRecDepth 20000 in
theorem k_X11_room_23 (call : Nat → List Value → qH → qR) (l0 : Nat) (l1 : Int32) (l2 : Value) (l3 : Value) (s0 : Nat) (s1 : Int32) (h : qH) : q_run qm_X11_room call 23 [.ref l0, .int l1, l2, l3] [.int s1, .ref s0] h =
  q_rcv h (.ref s0) 11 (q_rI (call 164 [.ref s0, .int s1, .int (1 : Int32), .int (1 : Int32)] h) q_t0 fun x2 h1 =>
  if q_cmp .ne x2 (0 : Int32) = true then
    q_rcv h1 (.ref l0) 11 (q_rV (call 179 [.ref l0, .int l1] h1) q_t0 fun h3 =>
    q_rcv h3 (.ref l0) 11 (q_rV (call 183 [.ref l0] h3) q_t0 fun h5 =>
    q_run qm_X11_room call 44 [.ref l0, .int l1, .int (0 : Int32), l3] [] h5))
  else
    some (.inl (some (.int (0 : Int32))), h1)) := by
  refine (q_cut_eq _ _ [0, 22, 23, 44, 105, 123, 140, 149, 180, 200, 221] 200 _ _ _ _).trans ?_
  rfl
set_option maxRecDepth 20000 in
theorem k_X11_room_44 (call : Nat → List Value → qH → qR) (l0 : Nat) (l1 : Int32) (l2 : Int32) (l3 : Value) (h : qH) : q_run qm_X11_room call 44 [.ref l0, .int l1, .int l2, l3] [] h =
  q_rcv h (.ref l0) 11 (q_rI (call 168 [.ref l0] h) q_t0 fun x2 h1 =>
  if q_cmp .eq x2 (0 : Int32) = true then
    q_run qm_X11_room call 180 [.ref l0, .int l1, .int l2, l3] [] h1
  else
    q_rcv h1 (.ref l0) 11 (q_rI (call 178 [.ref l0] h1) q_t0 fun x4 h3 =>
    if q_cmp .eq x4 (0 : Int32) = true then
      q_run qm_X11_room call 180 [.ref l0, .int l1, .int l2, l3] [] h3
    else
      q_rcv h3 (.ref l0) 11 (q_rI (call 173 [.ref l0] h3) q_t0 fun x6 h5 =>
      q_rI (call 185 [.int x6] h5) q_t0 fun x8 h7 =>
      if q_cmp .ne x8 (0 : Int32) = true then
        if q_cmp .eq l2 (60 : Int32) = true then
          q_run qm_X11_room call 140 [.ref l0, .int l1, .int l2, .int x6] [] h7
        else
          q_rI (call 174 [.float 0] h7) q_t0 fun x10 h9 =>
          if q_cmp .ne x6 x10 = true then
            q_run qm_X11_room call 105 [.ref l0, .int l1, .int l2, .int x6] [] h9
          else
            q_gI h9 (.ref l0) 11 16 fun x11 =>
            if q_cmp .eq x11 (5 : Int32) = true then
              q_run qm_X11_room call 140 [.ref l0, .int l1, .int l2, .int x6] [] h9
            else
              q_run qm_X11_room call 105 [.ref l0, .int l1, .int l2, .int x6] [] h9
      else
        q_gI h7 (.ref l0) 11 4 fun x12 =>
        q_rcv h7 (.ref l0) 11 (q_rV (call 169 [.ref l0, .int (1 : Int32), .int x12] h7) q_t0 fun h13 =>
        q_run qm_X11_room call 149 [.ref l0, .int l1, .int l2, .int x6] [] h13)))) := by
  refine (q_cut_eq _ _ [0, 22, 23, 44, 105, 123, 140, 149, 180, 200, 221] 200 _ _ _ _).trans ?_
  rfl
set_option maxRecDepth 20000 in
theorem k_X11_room_105 (call : Nat → List Value → qH → qR) (l0 : Nat) (l1 : Int32) (l2 : Int32) (l3 : Int32) (h : qH) : q_run qm_X11_room call 105 [.ref l0, .int l1, .int l2, .int l3] [] h =
  q_rI (call 174 [.float 1] h) q_t0 fun x2 h1 =>
  if q_cmp .ne l3 x2 = true then
    q_run qm_X11_room call 123 [.ref l0, .int l1, .int l2, .int l3] [] h1
  else
    q_gI h1 (.ref l0) 11 17 fun x3 =>
    if q_cmp .eq x3 (10 : Int32) = true then
      q_run qm_X11_room call 140 [.ref l0, .int l1, .int l2, .int l3] [] h1
    else
      q_run qm_X11_room call 123 [.ref l0, .int l1, .int l2, .int l3] [] h1 := by
  refine (q_cut_eq _ _ [0, 22, 23, 44, 105, 123, 140, 149, 180, 200, 221] 200 _ _ _ _).trans ?_
  rfl
set_option maxRecDepth 20000 in
theorem k_X11_room_123 (call : Nat → List Value → qH → qR) (l0 : Nat) (l1 : Int32) (l2 : Int32) (l3 : Int32) (h : qH) : q_run qm_X11_room call 123 [.ref l0, .int l1, .int l2, .int l3] [] h =
  q_rI (call 174 [.float 2] h) q_t0 fun x2 h1 =>
  if q_cmp .ne l3 x2 = true then
    q_run qm_X11_room call 149 [.ref l0, .int l1, .int l2, .int l3] [] h1
  else
    q_gI h1 (.ref l0) 11 18 fun x3 =>
    if q_cmp .ne x3 (4 : Int32) = true then
      q_run qm_X11_room call 149 [.ref l0, .int l1, .int l2, .int l3] [] h1
    else
      q_run qm_X11_room call 140 [.ref l0, .int l1, .int l2, .int l3] [] h1 := by
  refine (q_cut_eq _ _ [0, 22, 23, 44, 105, 123, 140, 149, 180, 200, 221] 200 _ _ _ _).trans ?_
  rfl
set_option maxRecDepth 20000 in
theorem k_X11_room_140 (call : Nat → List Value → qH → qR) (l0 : Nat) (l1 : Int32) (l2 : Int32) (l3 : Int32) (h : qH) : q_run qm_X11_room call 140 [.ref l0, .int l1, .int l2, .int l3] [] h =
  q_gI h (.ref l0) 11 4 fun x1 =>
  q_rcv h (.ref l0) 11 (q_rV (call 169 [.ref l0, .int (3 : Int32), .int x1] h) q_t0 fun h2 =>
  q_run qm_X11_room call 149 [.ref l0, .int l1, .int l2, .int l3] [] h2) := by
  refine (q_cut_eq _ _ [0, 22, 23, 44, 105, 123, 140, 149, 180, 200, 221] 200 _ _ _ _).trans ?_
  rfl
set_option maxRecDepth 20000 in
theorem k_X11_room_149 (call : Nat → List Value → qH → qR) (l0 : Nat) (l1 : Int32) (l2 : Int32) (l3 : Int32) (h : qH) : q_run qm_X11_room call 149 [.ref l0, .int l1, .int l2, .int l3] [] h =
  q_rcv h (.ref l0) 11 (q_rI (call 168 [.ref l0] h) q_t0 fun x2 h1 =>
  if q_cmp .ne x2 (0 : Int32) = true then
    q_rcv h1 (.ref l0) 11 (q_rV (call 175 [.ref l0] h1) q_t0 fun h3 =>
    q_rcv h3 (.ref l0) 11 (q_rV (call 187 [.ref l0, .int l3] h3) q_t0 fun h5 =>
    q_rcv h5 (.ref l0) 11 (q_rV (call 177 [.ref l0, .int (59 : Int32)] h5) q_t0 fun h7 =>
    q_run qm_X11_room call 44 [.ref l0, .int l1, .int (l2 + (1 : Int32)), .int l3] [] h7)))
  else
    q_run qm_X11_room call 180 [.ref l0, .int l1, .int l2, .int l3] [] h1) := by
  refine (q_cut_eq _ _ [0, 22, 23, 44, 105, 123, 140, 149, 180, 200, 221] 200 _ _ _ _).trans ?_
  rfl
set_option maxRecDepth 20000 in
theorem k_X11_room_180 (call : Nat → List Value → qH → qR) (l0 : Nat) (l1 : Int32) (l2 : Value) (l3 : Value) (h : qH) : q_run qm_X11_room call 180 [.ref l0, .int l1, l2, l3] [] h =
  q_rcv h (.ref l0) 11 (q_rI (call 168 [.ref l0] h) q_t0 fun x2 h1 =>
  if q_cmp .eq x2 (0 : Int32) = true then
    q_run qm_X11_room call 200 [.ref l0, .int l1, l2, l3] [] h1
  else
    q_rcv h1 (.ref l0) 11 (q_rI (call 188 [.ref l0] h1) q_t0 fun x4 h3 =>
    if q_cmp .ne x4 (0 : Int32) = true then
      q_run qm_X11_room call 200 [.ref l0, .int l1, l2, l3] [] h3
    else
      q_rcv h3 (.ref l0) 11 (q_rV (call 169 [.ref l0, .int (4 : Int32), .int l1] h3) q_t0 fun h5 =>
      q_run qm_X11_room call 200 [.ref l0, .int l1, l2, l3] [] h5))) := by
  refine (q_cut_eq _ _ [0, 22, 23, 44, 105, 123, 140, 149, 180, 200, 221] 200 _ _ _ _).trans ?_
  rfl
set_option maxRecDepth 20000 in
theorem k_X11_room_200 (call : Nat → List Value → qH → qR) (l0 : Nat) (l1 : Value) (l2 : Value) (l3 : Value) (h : qH) : q_run qm_X11_room call 200 [.ref l0, l1, l2, l3] [] h =
  q_gI h (.ref l0) 11 17 fun x1 =>
  q_rcv h (.ref l0) 11 (q_rI (call 180 [.ref l0, .int x1] h) q_t0 fun x3 h2 =>
  q_gI h2 (.ref l0) 11 5 fun x4 =>
  if q_cmp .ne x4 (-1 : Int32) = true then
    q_run qm_X11_room call 221 [.ref l0, l1, l2, .int x3] [] h2
  else
    q_rcv h2 (.ref l0) 11 (q_rV (call 184 [.ref l0] h2) q_t0 fun h5 =>
    q_run qm_X11_room call 221 [.ref l0, l1, l2, .int x3] [] h5)) := by
  refine (q_cut_eq _ _ [0, 22, 23, 44, 105, 123, 140, 149, 180, 200, 221] 200 _ _ _ _).trans ?_
  rfl
set_option maxRecDepth 20000 in
theorem k_X11_room_221 (call : Nat → List Value → qH → qR) (l0 : Value) (l1 : Value) (l2 : Value) (l3 : Int32) (h : qH) : q_run qm_X11_room call 221 [l0, l1, l2, .int l3] [] h =
  some (.inl (some (.int l3)), h) := by
  refine (q_cut_eq _ _ [0, 22, 23, 44, 105, 123, 140, 149, 180, 200, 221] 200 _ _ _ _).trans ?_
  rfl
set_option maxRecDepth 20000 in
theorem k_X11_emit_0 (call : Nat → List Value → qH → qR) (l0 : Nat) (l1 : Int32) (l2 : Int32) (h : qH) : q_run qm_X11_emit call 0 [.ref l0, .int l1, .int l2] [] h =
  q_rcv h (.ref l0) 11 (q_rI (call 168 [.ref l0] h) q_t0 fun x2 h1 =>
  if q_cmp .ne x2 (0 : Int32) = true then
    q_gR h1 (.ref l0) 11 26 fun r3 =>
    q_gI h1 (.ref l0) 11 31 fun x4 =>
    q_ast h1 (.ref r3) 0 x4 l1 fun h5 =>
    q_gR h5 (.ref l0) 11 27 fun r6 =>
    q_gI h5 (.ref l0) 11 31 fun x7 =>
    q_ast h5 (.ref r6) 0 x7 l2 fun h8 =>
    q_gI h8 (.ref l0) 11 31 fun x9 =>
    q_pV h8 (.ref l0) 11 31 (.int (x9 + (1 : Int32))) fun h10 =>
    some (.inl none, h10)
  else
    some (.inl none, h1)) := by
  refine (q_cut_eq _ _ [0] 200 _ _ _ _).trans ?_
  rfl
set_option maxRecDepth 20000 in
theorem k_X11_opensOne_0 (call : Nat → List Value → qH → qR) (l0 : Nat) (l1 : Int32) (h : qH) : q_run qm_X11_opensOne call 0 [.ref l0, .int l1] [] h =
  q_rcv h (.ref l0) 11 (q_rI (call 168 [.ref l0] h) q_t0 fun x2 h1 =>
  if q_cmp .eq x2 (0 : Int32) = true then
    q_run qm_X11_opensOne call 25 [.ref l0, .int l1] [] h1
  else
    q_gI h1 (.ref l0) 11 7 fun x3 =>
    if q_cmp .ne x3 (6 : Int32) = true then
      q_run qm_X11_opensOne call 25 [.ref l0, .int l1] [] h1
    else
      q_gI h1 (.ref l0) 11 4 fun x4 =>
      q_rcv h1 (.ref l0) 11 (q_rV (call 169 [.ref l0, .int (3 : Int32), .int x4] h1) q_t0 fun h5 =>
      q_run qm_X11_opensOne call 25 [.ref l0, .int l1] [] h5)) := by
  refine (q_cut_eq _ _ [0, 25, 42] 200 _ _ _ _).trans ?_
  rfl
set_option maxRecDepth 20000 in
theorem k_X11_opensOne_25 (call : Nat → List Value → qH → qR) (l0 : Nat) (l1 : Int32) (h : qH) : q_run qm_X11_opensOne call 25 [.ref l0, .int l1] [] h =
  q_rcv h (.ref l0) 11 (q_rI (call 168 [.ref l0] h) q_t0 fun x2 h1 =>
  if q_cmp .eq x2 (0 : Int32) = true then
    q_run qm_X11_opensOne call 42 [.ref l0, .int l1] [] h1
  else
    q_gI h1 (.ref l0) 11 4 fun x3 =>
    q_pV h1 (.ref l0) 11 4 (.int (x3 + l1)) fun h4 =>
    q_run qm_X11_opensOne call 42 [.ref l0, .int l1] [] h4) := by
  refine (q_cut_eq _ _ [0, 25, 42] 200 _ _ _ _).trans ?_
  rfl
set_option maxRecDepth 20000 in
theorem k_X11_opensOne_42 (call : Nat → List Value → qH → qR) (l0 : Nat) (l1 : Value) (h : qH) : q_run qm_X11_opensOne call 42 [.ref l0, l1] [] h =
  q_gI h (.ref l0) 11 7 fun x1 =>
  q_pV h (.ref l0) 11 7 (.int (x1 + (1 : Int32))) fun h2 =>
  some (.inl none, h2) := by
  refine (q_cut_eq _ _ [0, 25, 42] 200 _ _ _ _).trans ?_
  rfl
set_option maxRecDepth 20000 in
theorem k_X11_readSum_0 (call : Nat → List Value → qH → qR) (l0 : Nat) (h : qH) : q_run qm_X11_readSum call 0 [.ref l0, q_junk] [] h =
  q_rcv h (.ref l0) 11 (q_rV (call 193 [.ref l0] h) q_t0 fun h1 =>
  q_run qm_X11_readSum call 4 [.ref l0, q_junk] [] h1) := by
  refine (q_cut_eq _ _ [0, 4, 29, 43, 67] 200 _ _ _ _).trans ?_
  rfl
set_option maxRecDepth 20000 in
theorem k_X11_readSum_4 (call : Nat → List Value → qH → qR) (l0 : Nat) (l1 : Value) (h : qH) : q_run qm_X11_readSum call 4 [.ref l0, l1] [] h =
  q_rcv h (.ref l0) 11 (q_rI (call 168 [.ref l0] h) q_t0 fun x2 h1 =>
  if q_cmp .eq x2 (0 : Int32) = true then
    q_run qm_X11_readSum call 67 [.ref l0, l1] [] h1
  else
    q_rcv h1 (.ref l0) 11 (q_rI (call 170 [.ref l0] h1) q_t0 fun x4 h3 =>
    if q_cmp .eq x4 (43 : Int32) = true then
      q_run qm_X11_readSum call 29 [.ref l0, l1] [] h3
    else
      q_rcv h3 (.ref l0) 11 (q_rI (call 170 [.ref l0] h3) q_t0 fun x6 h5 =>
      if q_cmp .ne x6 (45 : Int32) = true then
        q_run qm_X11_readSum call 67 [.ref l0, l1] [] h5
      else
        q_run qm_X11_readSum call 29 [.ref l0, l1] [] h5))) := by
  refine (q_cut_eq _ _ [0, 4, 29, 43, 67] 200 _ _ _ _).trans ?_
  rfl
set_option maxRecDepth 20000 in
theorem k_X11_readSum_29 (call : Nat → List Value → qH → qR) (l0 : Nat) (l1 : Value) (h : qH) : q_run qm_X11_readSum call 29 [.ref l0, l1] [] h =
  q_rcv h (.ref l0) 11 (q_rI (call 170 [.ref l0] h) q_t0 fun x2 h1 =>
  if q_cmp .ne x2 (43 : Int32) = true then
    q_run qm_X11_readSum call 43 [.ref l0, l1] [.int (3 : Int32)] h1
  else
    q_run qm_X11_readSum call 43 [.ref l0, l1] [.int (2 : Int32)] h1) := by
  refine (q_cut_eq _ _ [0, 4, 29, 43, 67] 200 _ _ _ _).trans ?_
  rfl
set_option maxRecDepth 20000 in
theorem k_X11_readSum_43 (call : Nat → List Value → qH → qR) (l0 : Nat) (l1 : Value) (s0 : Int32) (h : qH) : q_run qm_X11_readSum call 43 [.ref l0, l1] [.int s0] h =
  q_gI h (.ref l0) 11 4 fun x1 =>
  q_pV h (.ref l0) 11 4 (.int (x1 + (1 : Int32))) fun h2 =>
  q_rcv h2 (.ref l0) 11 (q_rV (call 193 [.ref l0] h2) q_t0 fun h3 =>
  q_rcv h3 (.ref l0) 11 (q_rV (call 190 [.ref l0, .int s0, .int (0 : Int32)] h3) q_t0 fun h5 =>
  q_run qm_X11_readSum call 4 [.ref l0, .int s0] [] h5)) := by
  refine (q_cut_eq _ _ [0, 4, 29, 43, 67] 200 _ _ _ _).trans ?_
  rfl
set_option maxRecDepth 20000 in
theorem k_X11_readSum_67 (call : Nat → List Value → qH → qR) (l0 : Value) (l1 : Value) (h : qH) : q_run qm_X11_readSum call 67 [l0, l1] [] h =
  some (.inl none, h) := by
  refine (q_cut_eq _ _ [0, 4, 29, 43, 67] 200 _ _ _ _).trans ?_
  rfl
set_option maxRecDepth 20000 in
theorem k_X11_readProduct_0 (call : Nat → List Value → qH → qR) (l0 : Nat) (h : qH) : q_run qm_X11_readProduct call 0 [.ref l0, q_junk] [] h =
  q_rcv h (.ref l0) 11 (q_rV (call 196 [.ref l0] h) q_t0 fun h1 =>
  q_run qm_X11_readProduct call 4 [.ref l0, q_junk] [] h1) := by
  refine (q_cut_eq _ _ [0, 4, 29, 43, 67] 200 _ _ _ _).trans ?_
  rfl
set_option maxRecDepth 20000 in
theorem k_X11_readProduct_4 (call : Nat → List Value → qH → qR) (l0 : Nat) (l1 : Value) (h : qH) : q_run qm_X11_readProduct call 4 [.ref l0, l1] [] h =
  q_rcv h (.ref l0) 11 (q_rI (call 168 [.ref l0] h) q_t0 fun x2 h1 =>
  if q_cmp .eq x2 (0 : Int32) = true then
    q_run qm_X11_readProduct call 67 [.ref l0, l1] [] h1
  else
    q_rcv h1 (.ref l0) 11 (q_rI (call 170 [.ref l0] h1) q_t0 fun x4 h3 =>
    if q_cmp .eq x4 (42 : Int32) = true then
      q_run qm_X11_readProduct call 29 [.ref l0, l1] [] h3
    else
      q_rcv h3 (.ref l0) 11 (q_rI (call 170 [.ref l0] h3) q_t0 fun x6 h5 =>
      if q_cmp .ne x6 (47 : Int32) = true then
        q_run qm_X11_readProduct call 67 [.ref l0, l1] [] h5
      else
        q_run qm_X11_readProduct call 29 [.ref l0, l1] [] h5))) := by
  refine (q_cut_eq _ _ [0, 4, 29, 43, 67] 200 _ _ _ _).trans ?_
  rfl
set_option maxRecDepth 20000 in
theorem k_X11_readProduct_29 (call : Nat → List Value → qH → qR) (l0 : Nat) (l1 : Value) (h : qH) : q_run qm_X11_readProduct call 29 [.ref l0, l1] [] h =
  q_rcv h (.ref l0) 11 (q_rI (call 170 [.ref l0] h) q_t0 fun x2 h1 =>
  if q_cmp .ne x2 (42 : Int32) = true then
    q_run qm_X11_readProduct call 43 [.ref l0, l1] [.int (5 : Int32)] h1
  else
    q_run qm_X11_readProduct call 43 [.ref l0, l1] [.int (4 : Int32)] h1) := by
  refine (q_cut_eq _ _ [0, 4, 29, 43, 67] 200 _ _ _ _).trans ?_
  rfl
set_option maxRecDepth 20000 in
theorem k_X11_readProduct_43 (call : Nat → List Value → qH → qR) (l0 : Nat) (l1 : Value) (s0 : Int32) (h : qH) : q_run qm_X11_readProduct call 43 [.ref l0, l1] [.int s0] h =
  q_gI h (.ref l0) 11 4 fun x1 =>
  q_pV h (.ref l0) 11 4 (.int (x1 + (1 : Int32))) fun h2 =>
  q_rcv h2 (.ref l0) 11 (q_rV (call 196 [.ref l0] h2) q_t0 fun h3 =>
  q_rcv h3 (.ref l0) 11 (q_rV (call 190 [.ref l0, .int s0, .int (0 : Int32)] h3) q_t0 fun h5 =>
  q_run qm_X11_readProduct call 4 [.ref l0, .int s0] [] h5)) := by
  refine (q_cut_eq _ _ [0, 4, 29, 43, 67] 200 _ _ _ _).trans ?_
  rfl
set_option maxRecDepth 20000 in
theorem k_X11_readProduct_67 (call : Nat → List Value → qH → qR) (l0 : Value) (l1 : Value) (h : qH) : q_run qm_X11_readProduct call 67 [l0, l1] [] h =
  some (.inl none, h) := by
  refine (q_cut_eq _ _ [0, 4, 29, 43, 67] 200 _ _ _ _).trans ?_
  rfl
set_option maxRecDepth 20000 in
theorem k_X11_readTwo_0 (call : Nat → List Value → qH → qR) (l0 : Nat) (l1 : Int32) (l2 : Int32) (h : qH) : q_run qm_X11_readTwo call 0 [.ref l0, .int l1, .int l2] [] h =
  q_rcv h (.ref l0) 11 (q_rV (call 191 [.ref l0, .int l1] h) q_t0 fun h1 =>
  q_rcv h1 (.ref l0) 11 (q_rV (call 177 [.ref l0, .int (91 : Int32)] h1) q_t0 fun h3 =>
  q_rcv h3 (.ref l0) 11 (q_rV (call 192 [.ref l0] h3) q_t0 fun h5 =>
  q_rcv h5 (.ref l0) 11 (q_rV (call 177 [.ref l0, .int (44 : Int32)] h5) q_t0 fun h7 =>
  q_rcv h7 (.ref l0) 11 (q_rV (call 192 [.ref l0] h7) q_t0 fun h9 =>
  q_rcv h9 (.ref l0) 11 (q_rV (call 177 [.ref l0, .int (93 : Int32)] h9) q_t0 fun h11 =>
  q_gI h11 (.ref l0) 11 7 fun x13 =>
  q_pV h11 (.ref l0) 11 7 (.int (x13 - (1 : Int32))) fun h14 =>
  q_rcv h14 (.ref l0) 11 (q_rV (call 190 [.ref l0, .int l2, .int (0 : Int32)] h14) q_t0 fun h15 =>
  some (.inl none, h15)))))))) := by
  refine (q_cut_eq _ _ [0] 200 _ _ _ _).trans ?_
  rfl
set_option maxRecDepth 20000 in
theorem k_X11_factHere_0 (call : Nat → List Value → qH → qR) (l0 : Nat) (h : qH) : q_run qm_X11_factHere call 0 [.ref l0, q_junk] [] h =
  q_rcv h (.ref l0) 11 (q_rI (call 173 [.ref l0] h) q_t0 fun x2 h1 =>
  q_rI (call 174 [.float 7] h1) q_t0 fun x4 h3 =>
  if q_cmp .ne x2 x4 = true then
    q_rI (call 174 [.float 8] h3) q_t0 fun x6 h5 =>
    if q_cmp .ne x2 x6 = true then
      q_rI (call 174 [.float 4] h5) q_t0 fun x8 h7 =>
      if q_cmp .ne x2 x8 = true then
        q_rI (call 174 [.float 9] h7) q_t0 fun x10 h9 =>
        if q_cmp .ne x2 x10 = true then
          q_rI (call 174 [.float 10] h9) q_t0 fun x12 h11 =>
          if q_cmp .ne x2 x12 = true then
            q_rI (call 174 [.float 11] h11) q_t0 fun x14 h13 =>
            if q_cmp .ne x2 x14 = true then
              q_rI (call 174 [.float 12] h13) q_t0 fun x16 h15 =>
              if q_cmp .ne x2 x16 = true then
                q_run qm_X11_factHere call 103 [.ref l0, .int x2] [] h15
              else
                q_run qm_X11_factHere call 134 [.ref l0, .int x2] [.int (6 : Int32)] h15
            else
              q_run qm_X11_factHere call 134 [.ref l0, .int x2] [.int (5 : Int32)] h13
          else
            q_run qm_X11_factHere call 134 [.ref l0, .int x2] [.int (4 : Int32)] h11
        else
          q_run qm_X11_factHere call 134 [.ref l0, .int x2] [.int (3 : Int32)] h9
      else
        q_run qm_X11_factHere call 134 [.ref l0, .int x2] [.int (2 : Int32)] h7
    else
      q_run qm_X11_factHere call 134 [.ref l0, .int x2] [.int (1 : Int32)] h5
  else
    q_run qm_X11_factHere call 134 [.ref l0, .int x2] [.int (0 : Int32)] h3) := by
  refine (q_cut_eq _ _ [0, 103, 134] 200 _ _ _ _).trans ?_
  rfl
set_option maxRecDepth 20000 in
theorem k_X11_factHere_103 (call : Nat → List Value → qH → qR) (l0 : Value) (l1 : Int32) (h : qH) : q_run qm_X11_factHere call 103 [l0, .int l1] [] h =
  q_rI (call 174 [.float 13] h) q_t0 fun x2 h1 =>
  if q_cmp .ne l1 x2 = true then
    q_rI (call 174 [.float 14] h1) q_t0 fun x4 h3 =>
    if q_cmp .ne l1 x4 = true then
      q_run qm_X11_factHere call 134 [l0, .int l1] [.int (-1 : Int32)] h3
    else
      q_run qm_X11_factHere call 134 [l0, .int l1] [.int (8 : Int32)] h3
  else
    q_run qm_X11_factHere call 134 [l0, .int l1] [.int (7 : Int32)] h1 := by
  refine (q_cut_eq _ _ [0, 103, 134] 200 _ _ _ _).trans ?_
  rfl
set_option maxRecDepth 20000 in
theorem k_X11_factHere_134 (call : Nat → List Value → qH → qR) (l0 : Value) (l1 : Value) (s0 : Int32) (h : qH) : q_run qm_X11_factHere call 134 [l0, l1] [.int s0] h =
  some (.inl (some (.int s0)), h) := by
  refine (q_cut_eq _ _ [0, 103, 134] 200 _ _ _ _).trans ?_
  rfl
set_option maxRecDepth 20000 in
theorem k_X11_readUnit_0 (call : Nat → List Value → qH → qR) (l0 : Nat) (h : qH) : q_run qm_X11_readUnit call 0 [.ref l0, q_junk] [] h =
  q_rcv h (.ref l0) 11 (q_rI (call 168 [.ref l0] h) q_t0 fun x2 h1 =>
  if q_cmp .ne x2 (0 : Int32) = true then
    q_rcv h1 (.ref l0) 11 (q_rI (call 170 [.ref l0] h1) q_t0 fun x4 h3 =>
    if q_cmp .ne x4 (40 : Int32) = true then
      q_rcv h3 (.ref l0) 11 (q_rI (call 170 [.ref l0] h3) q_t0 fun x6 h5 =>
      q_rI (call 172 [.int x6] h5) q_t0 fun x8 h7 =>
      if q_cmp .eq x8 (0 : Int32) = true then
        q_rcv h7 (.ref l0) 11 (q_rI (call 173 [.ref l0] h7) q_t0 fun x10 h9 =>
        q_rI (call 174 [.float 5] h9) q_t0 fun x12 h11 =>
        if q_cmp .ne x10 x12 = true then
          q_run qm_X11_readUnit call 94 [.ref l0, q_junk] [] h11
        else
          q_rcv h11 (.ref l0) 11 (q_rV (call 194 [.ref l0, .int (5 : Int32), .int (6 : Int32)] h11) q_t0 fun h13 =>
          q_run qm_X11_readUnit call 154 [.ref l0, q_junk] [] h13))
      else
        q_rcv h7 (.ref l0) 11 (q_rI (call 176 [.ref l0, .int (0 : Int32), .int (999 : Int32)] h7) q_t0 fun x16 h15 =>
        q_rcv h15 (.ref l0) 11 (q_rV (call 190 [.ref l0, .int (0 : Int32), .int x16] h15) q_t0 fun h17 =>
        q_run qm_X11_readUnit call 154 [.ref l0, q_junk] [] h17)))
    else
      q_rcv h3 (.ref l0) 11 (q_rV (call 191 [.ref l0, .int (1 : Int32)] h3) q_t0 fun h19 =>
      q_rcv h19 (.ref l0) 11 (q_rV (call 192 [.ref l0] h19) q_t0 fun h21 =>
      q_rcv h21 (.ref l0) 11 (q_rV (call 177 [.ref l0, .int (41 : Int32)] h21) q_t0 fun h23 =>
      q_gI h23 (.ref l0) 11 7 fun x25 =>
      q_pV h23 (.ref l0) 11 7 (.int (x25 - (1 : Int32))) fun h26 =>
      q_run qm_X11_readUnit call 154 [.ref l0, q_junk] [] h26))))
  else
    some (.inl none, h1)) := by
  refine (q_cut_eq _ _ [0, 94, 136, 154] 200 _ _ _ _).trans ?_
  rfl
set_option maxRecDepth 20000 in
theorem k_X11_readUnit_94 (call : Nat → List Value → qH → qR) (l0 : Nat) (l1 : Value) (h : qH) : q_run qm_X11_readUnit call 94 [.ref l0, l1] [] h =
  q_rcv h (.ref l0) 11 (q_rI (call 173 [.ref l0] h) q_t0 fun x2 h1 =>
  q_rI (call 174 [.float 6] h1) q_t0 fun x4 h3 =>
  if q_cmp .ne x2 x4 = true then
    q_rcv h3 (.ref l0) 11 (q_rI (call 195 [.ref l0] h3) q_t0 fun x6 h5 =>
    if q_cmp .ne x6 (-1 : Int32) = true then
      q_run qm_X11_readUnit call 136 [.ref l0, .int x6] [] h5
    else
      q_gI h5 (.ref l0) 11 4 fun x7 =>
      q_rcv h5 (.ref l0) 11 (q_rV (call 169 [.ref l0, .int (1 : Int32), .int x7] h5) q_t0 fun h8 =>
      q_run qm_X11_readUnit call 136 [.ref l0, .int x6] [] h8))
  else
    q_rcv h3 (.ref l0) 11 (q_rV (call 194 [.ref l0, .int (4 : Int32), .int (7 : Int32)] h3) q_t0 fun h10 =>
    q_run qm_X11_readUnit call 154 [.ref l0, l1] [] h10)) := by
  refine (q_cut_eq _ _ [0, 94, 136, 154] 200 _ _ _ _).trans ?_
  rfl
set_option maxRecDepth 20000 in
theorem k_X11_readUnit_136 (call : Nat → List Value → qH → qR) (l0 : Nat) (l1 : Int32) (h : qH) : q_run qm_X11_readUnit call 136 [.ref l0, .int l1] [] h =
  q_rcv h (.ref l0) 11 (q_rI (call 168 [.ref l0] h) q_t0 fun x2 h1 =>
  if q_cmp .ne x2 (0 : Int32) = true then
    q_rcv h1 (.ref l0) 11 (q_rV (call 175 [.ref l0] h1) q_t0 fun h3 =>
    q_rcv h3 (.ref l0) 11 (q_rV (call 190 [.ref l0, .int (1 : Int32), .int l1] h3) q_t0 fun h5 =>
    q_run qm_X11_readUnit call 154 [.ref l0, .int l1] [] h5))
  else
    some (.inl none, h1)) := by
  refine (q_cut_eq _ _ [0, 94, 136, 154] 200 _ _ _ _).trans ?_
  rfl
set_option maxRecDepth 20000 in
theorem k_X11_readUnit_154 (call : Nat → List Value → qH → qR) (l0 : Value) (l1 : Value) (h : qH) : q_run qm_X11_readUnit call 154 [l0, l1] [] h =
  some (.inl none, h) := by
  refine (q_cut_eq _ _ [0, 94, 136, 154] 200 _ _ _ _).trans ?_
  rfl
set_option maxRecDepth 20000 in
theorem k_X11_law_0 (call : Nat → List Value → qH → qR) (l0 : Nat) (l1 : Int32) (h : qH) : q_run qm_X11_law call 0 [.ref l0, .int l1, q_junk] [] h =
  q_pV h (.ref l0) 11 0 (.int (0 : Int32)) fun h1 =>
  if q_cmp .lt l1 (0 : Int32) = true then
    q_run qm_X11_law call 29 [.ref l0, .int l1, q_junk] [.ref l0] h1
  else
    q_gI h1 (.ref l0) 11 2 fun x2 =>
    if q_cmp .gt l1 x2 = true then
      q_run qm_X11_law call 29 [.ref l0, .int l1, q_junk] [.ref l0] h1
    else
      if q_cmp .gt l1 (150 : Int32) = true then
        q_run qm_X11_law call 29 [.ref l0, .int l1, q_junk] [.ref l0] h1
      else
        q_run qm_X11_law call 30 [.ref l0, .int l1, q_junk] [.int (1 : Int32), .ref l0] h1 := by
  refine (q_cut_eq _ _ [0, 29, 30, 77] 200 _ _ _ _).trans ?_
  rfl
set_option maxRecDepth 20000 in
theorem k_X11_law_29 (call : Nat → List Value → qH → qR) (l0 : Nat) (l1 : Int32) (l2 : Value) (s0 : Nat) (h : qH) : q_run qm_X11_law call 29 [.ref l0, .int l1, l2] [.ref s0] h =
  q_run qm_X11_law call 30 [.ref l0, .int l1, l2] [.int (0 : Int32), .ref s0] h := by
  refine (q_cut_eq _ _ [0, 29, 30, 77] 200 _ _ _ _).trans ?_
  rfl
set_option maxRecDepth 20000 in
theorem k_X11_law_30 (call : Nat → List Value → qH → qR) (l0 : Nat) (l1 : Int32) (l2 : Value) (s0 : Nat) (s1 : Int32) (h : qH) : q_run qm_X11_law call 30 [.ref l0, .int l1, l2] [.int s1, .ref s0] h =
  q_rcv h (.ref s0) 11 (q_rI (call 164 [.ref s0, .int s1, .int (1 : Int32), .int (1 : Int32)] h) q_t0 fun x2 h1 =>
  if q_cmp .ne x2 (0 : Int32) = true then
    q_rcv h1 (.ref l0) 11 (q_rV (call 179 [.ref l0, .int l1] h1) q_t0 fun h3 =>
    q_pV h3 (.ref l0) 11 31 (.int (0 : Int32)) fun h5 =>
    q_rcv h5 (.ref l0) 11 (q_rV (call 192 [.ref l0] h5) q_t0 fun h6 =>
    q_rcv h6 (.ref l0) 11 (q_rI (call 168 [.ref l0] h6) q_t0 fun x9 h8 =>
    if q_cmp .eq x9 (0 : Int32) = true then
      q_run qm_X11_law call 77 [.ref l0, .int l1, l2] [] h8
    else
      q_rcv h8 (.ref l0) 11 (q_rI (call 178 [.ref l0] h8) q_t0 fun x11 h10 =>
      if q_cmp .eq x11 (0 : Int32) = true then
        q_run qm_X11_law call 77 [.ref l0, .int l1, l2] [] h10
      else
        q_gI h10 (.ref l0) 11 4 fun x12 =>
        q_rcv h10 (.ref l0) 11 (q_rV (call 169 [.ref l0, .int (1 : Int32), .int x12] h10) q_t0 fun h13 =>
        q_run qm_X11_law call 77 [.ref l0, .int l1, l2] [] h13)))))
  else
    some (.inl (some (.int (0 : Int32))), h1)) := by
  refine (q_cut_eq _ _ [0, 29, 30, 77] 200 _ _ _ _).trans ?_
  rfl
set_option maxRecDepth 20000 in
theorem k_X11_law_77 (call : Nat → List Value → qH → qR) (l0 : Nat) (l1 : Value) (l2 : Value) (h : qH) : q_run qm_X11_law call 77 [.ref l0, l1, l2] [] h =
  q_rcv h (.ref l0) 11 (q_rI (call 180 [.ref l0, .int (1 : Int32)] h) q_t0 fun x2 h1 =>
  q_gI h1 (.ref l0) 11 5 fun x3 =>
  if q_cmp .eq x3 (-1 : Int32) = true then
    q_gI h1 (.ref l0) 11 31 fun x4 =>
    q_pV h1 (.ref l0) 11 32 (.int x4) fun h5 =>
    q_gR h5 (.ref l0) 11 26 fun r6 =>
    q_gR h5 (.ref l0) 11 28 fun r7 =>
    q_gI h5 (.ref l0) 11 31 fun x8 =>
    q_rcv h5 (.ref l0) 11 (q_rV (call 182 [.ref l0, .ref r6, .ref r7, .int x8] h5) q_t0 fun h9 =>
    q_gR h9 (.ref l0) 11 27 fun r11 =>
    q_gR h9 (.ref l0) 11 29 fun r12 =>
    q_gI h9 (.ref l0) 11 31 fun x13 =>
    q_rcv h9 (.ref l0) 11 (q_rV (call 182 [.ref l0, .ref r11, .ref r12, .int x13] h9) q_t0 fun h14 =>
    some (.inl (some (.int x2)), h14)))
  else
    some (.inl (some (.int x2)), h1)) := by
  refine (q_cut_eq _ _ [0, 29, 30, 77] 200 _ _ _ _).trans ?_
  rfl
set_option maxRecDepth 20000 in
theorem k_X11_valueNow_0 (call : Nat → List Value → qH → qR) (l0 : Nat) (h : qH) : q_run qm_X11_valueNow call 0 [.ref l0, q_junk, q_junk, q_junk] [] h =
  q_run qm_X11_valueNow call 4 [.ref l0, .int (0 : Int32), .int (0 : Int32), q_junk] [] h := by
  refine (q_cut_eq _ _ [0, 4, 53, 89] 200 _ _ _ _).trans ?_
  rfl
set_option maxRecDepth 20000 in
theorem k_X11_valueNow_4 (call : Nat → List Value → qH → qR) (l0 : Nat) (l1 : Int32) (l2 : Int32) (l3 : Value) (h : qH) : q_run qm_X11_valueNow call 4 [.ref l0, .int l1, .int l2, l3] [] h =
  q_gI h (.ref l0) 11 32 fun x1 =>
  if q_cmp .ge l2 x1 = true then
    q_gR h (.ref l0) 11 30 fun r2 =>
    q_ald h (.ref r2) 0 (0 : Int32) fun x3 =>
    some (.inl (some (.int x3)), h)
  else
    q_gR h (.ref l0) 11 28 fun r4 =>
    q_ald h (.ref r4) 0 l2 fun x5 =>
    if q_cmp .gt x5 (1 : Int32) = true then
      q_gR h (.ref l0) 11 30 fun r6 =>
      q_gR h (.ref l0) 11 30 fun r7 =>
      q_ald h (.ref r7) 0 ((l1 + (-1 : Int32)) - (1 : Int32)) fun x8 =>
      q_gR h (.ref l0) 11 30 fun r9 =>
      q_ald h (.ref r9) 0 (l1 + (-1 : Int32)) fun x10 =>
      q_rI (call 199 [.int x5, .int x8, .int x10] h) q_t0 fun x12 h11 =>
      q_ast h11 (.ref r6) 0 ((l1 + (-1 : Int32)) - (1 : Int32)) x12 fun h13 =>
      q_run qm_X11_valueNow call 89 [.ref l0, .int (l1 + (-1 : Int32)), .int l2, .int x5] [] h13
    else
      q_gR h (.ref l0) 11 30 fun r14 =>
      if q_cmp .ne x5 (0 : Int32) = true then
        q_gR h (.ref l0) 11 33 fun r15 =>
        q_gR h (.ref l0) 11 29 fun r16 =>
        q_ald h (.ref r16) 0 l2 fun x17 =>
        q_ald h (.ref r15) 0 x17 fun x18 =>
        q_run qm_X11_valueNow call 53 [.ref l0, .int l1, .int l2, .int x5] [.int x18, .int l1, .ref r14] h
      else
        q_gR h (.ref l0) 11 29 fun r19 =>
        q_ald h (.ref r19) 0 l2 fun x20 =>
        q_run qm_X11_valueNow call 53 [.ref l0, .int l1, .int l2, .int x5] [.int x20, .int l1, .ref r14] h := by
  refine (q_cut_eq _ _ [0, 4, 53, 89] 200 _ _ _ _).trans ?_
  rfl
set_option maxRecDepth 20000 in
theorem k_X11_valueNow_53 (call : Nat → List Value → qH → qR) (l0 : Nat) (l1 : Int32) (l2 : Int32) (l3 : Value) (s0 : Nat) (s1 : Int32) (s2 : Int32) (h : qH) : q_run qm_X11_valueNow call 53 [.ref l0, .int l1, .int l2, l3] [.int s2, .int s1, .ref s0] h =
  q_ast h (.ref s0) 0 s1 s2 fun h1 =>
  q_run qm_X11_valueNow call 89 [.ref l0, .int (l1 + (1 : Int32)), .int l2, l3] [] h1 := by
  refine (q_cut_eq _ _ [0, 4, 53, 89] 200 _ _ _ _).trans ?_
  rfl
set_option maxRecDepth 20000 in
theorem k_X11_valueNow_89 (call : Nat → List Value → qH → qR) (l0 : Nat) (l1 : Int32) (l2 : Int32) (l3 : Value) (h : qH) : q_run qm_X11_valueNow call 89 [.ref l0, .int l1, .int l2, l3] [] h =
  q_run qm_X11_valueNow call 4 [.ref l0, .int l1, .int (l2 + (1 : Int32)), l3] [] h := by
  refine (q_cut_eq _ _ [0, 4, 53, 89] 200 _ _ _ _).trans ?_
  rfl
set_option maxRecDepth 20000 in
theorem k_X11_both_0 (call : Nat → List Value → qH → qR) (l0 : Int32) (l1 : Int32) (l2 : Int32) (h : qH) : q_run qm_X11_both call 0 [.int l0, .int l1, .int l2] [] h =
  if q_cmp .ne l0 (2 : Int32) = true then
    if q_cmp .ne l0 (3 : Int32) = true then
      if q_cmp .ne l0 (4 : Int32) = true then
        if q_cmp .ne l0 (5 : Int32) = true then
          if q_cmp .ge l1 l2 = true then
            q_run qm_X11_both call 54 [.int l0, .int l1, .int l2] [.int (0 : Int32)] h
          else
            q_run qm_X11_both call 54 [.int l0, .int l1, .int l2] [.int (1 : Int32)] h
        else
          if q_cmp .ne l2 (0 : Int32) = true then
            if l2 = 0 then none else
            q_run qm_X11_both call 43 [.int l0, .int l1, .int l2] [.int (l1 / l2)] h
          else
            q_run qm_X11_both call 43 [.int l0, .int l1, .int l2] [.int (0 : Int32)] h
      else
        some (.inl (some (.int (l1 * l2))), h)
    else
      some (.inl (some (.int (l1 - l2))), h)
  else
    some (.inl (some (.int (l1 + l2))), h) := by
  refine (q_cut_eq _ _ [0, 43, 54, 65, 73] 200 _ _ _ _).trans ?_
  rfl
set_option maxRecDepth 20000 in
theorem k_X11_both_43 (call : Nat → List Value → qH → qR) (l0 : Value) (l1 : Value) (l2 : Value) (s0 : Int32) (h : qH) : q_run qm_X11_both call 43 [l0, l1, l2] [.int s0] h =
  some (.inl (some (.int s0)), h) := by
  refine (q_cut_eq _ _ [0, 43, 54, 65, 73] 200 _ _ _ _).trans ?_
  rfl
set_option maxRecDepth 20000 in
theorem k_X11_both_54 (call : Nat → List Value → qH → qR) (l0 : Int32) (l1 : Int32) (l2 : Int32) (s0 : Int32) (h : qH) : q_run qm_X11_both call 54 [.int l0, .int l1, .int l2] [.int s0] h =
  if q_cmp .ne l0 (6 : Int32) = true then
    q_run qm_X11_both call 65 [.int l0, .int l1, .int l2] [.int (0 : Int32), .int s0] h
  else
    q_run qm_X11_both call 65 [.int l0, .int l1, .int l2] [.int (1 : Int32), .int s0] h := by
  refine (q_cut_eq _ _ [0, 43, 54, 65, 73] 200 _ _ _ _).trans ?_
  rfl
set_option maxRecDepth 20000 in
theorem k_X11_both_65 (call : Nat → List Value → qH → qR) (l0 : Value) (l1 : Int32) (l2 : Int32) (s0 : Int32) (s1 : Int32) (h : qH) : q_run qm_X11_both call 65 [l0, .int l1, .int l2] [.int s1, .int s0] h =
  if q_cmp .ne s0 s1 = true then
    q_run qm_X11_both call 73 [l0, .int l1, .int l2] [.int l2] h
  else
    q_run qm_X11_both call 73 [l0, .int l1, .int l2] [.int l1] h := by
  refine (q_cut_eq _ _ [0, 43, 54, 65, 73] 200 _ _ _ _).trans ?_
  rfl
set_option maxRecDepth 20000 in
theorem k_X11_both_73 (call : Nat → List Value → qH → qR) (l0 : Value) (l1 : Value) (l2 : Value) (s0 : Int32) (h : qH) : q_run qm_X11_both call 73 [l0, l1, l2] [.int s0] h =
  some (.inl (some (.int s0)), h) := by
  refine (q_cut_eq _ _ [0, 43, 54, 65, 73] 200 _ _ _ _).trans ?_
  rfl
set_option maxRecDepth 20000 in
theorem k_X11_fliesNow_0 (call : Nat → List Value → qH → qR) (l0 : Nat) (h : qH) : q_run qm_X11_fliesNow call 0 [.ref l0, q_junk] [] h =
  q_gI h (.ref l0) 11 32 fun x1 =>
  if q_cmp .ne x1 (0 : Int32) = true then
    q_rcv h (.ref l0) 11 (q_rI (call 198 [.ref l0] h) q_t0 fun x3 h2 =>
    q_run qm_X11_fliesNow call 43 [.ref l0, q_junk] [.int x3] h2)
  else
    q_gR h (.ref l0) 11 33 fun r4 =>
    q_ald h (.ref r4) 0 (0 : Int32) fun x5 =>
    q_gR h (.ref l0) 11 33 fun r6 =>
    q_ald h (.ref r6) 0 (4 : Int32) fun x7 =>
    q_gR h (.ref l0) 11 33 fun r8 =>
    q_ald h (.ref r8) 0 (2 : Int32) fun x9 =>
    q_gR h (.ref l0) 11 33 fun r10 =>
    q_ald h (.ref r10) 0 (3 : Int32) fun x11 =>
    q_run qm_X11_fliesNow call 43 [.ref l0, q_junk] [.int (((((2 : Int32) * x5) + x7) - x9) - x11)] h := by
  refine (q_cut_eq _ _ [0, 43, 64] 200 _ _ _ _).trans ?_
  rfl
set_option maxRecDepth 20000 in
theorem k_X11_fliesNow_43 (call : Nat → List Value → qH → qR) (l0 : Value) (l1 : Value) (s0 : Int32) (h : qH) : q_run qm_X11_fliesNow call 43 [l0, l1] [.int s0] h =
  if q_cmp .ge s0 (0 : Int32) = true then
    if q_cmp .le s0 (60 : Int32) = true then
      q_run qm_X11_fliesNow call 64 [l0, .int s0] [.int s0] h
    else
      q_run qm_X11_fliesNow call 64 [l0, .int s0] [.int (60 : Int32)] h
  else
    q_run qm_X11_fliesNow call 64 [l0, .int s0] [.int (0 : Int32)] h := by
  refine (q_cut_eq _ _ [0, 43, 64] 200 _ _ _ _).trans ?_
  rfl
set_option maxRecDepth 20000 in
theorem k_X11_fliesNow_64 (call : Nat → List Value → qH → qR) (l0 : Value) (l1 : Value) (s0 : Int32) (h : qH) : q_run qm_X11_fliesNow call 64 [l0, l1] [.int s0] h =
  some (.inl (some (.int s0)), h) := by
  refine (q_cut_eq _ _ [0, 43, 64] 200 _ _ _ _).trans ?_
  rfl
set_option maxRecDepth 20000 in
theorem k_X11_tellsStep_0 (call : Nat → List Value → qH → qR) (l0 : Nat) (l1 : Int32) (l2 : Int32) (l3 : Int32) (h : qH) : q_run qm_X11_tellsStep call 0 [.ref l0, .int l1, .int l2, .int l3] [] h =
  q_rcv h (.ref l0) 11 (q_rI (call 168 [.ref l0] h) q_t0 fun x2 h1 =>
  if q_cmp .ne x2 (0 : Int32) = true then
    q_gR h1 (.ref l0) 11 34 fun r3 =>
    q_gI h1 (.ref l0) 11 36 fun x4 =>
    q_ast h1 (.ref r3) 0 x4 l1 fun h5 =>
    q_gR h5 (.ref l0) 11 34 fun r6 =>
    q_gI h5 (.ref l0) 11 36 fun x7 =>
    q_ast h5 (.ref r6) 0 (x7 + (1 : Int32)) l2 fun h8 =>
    q_gR h8 (.ref l0) 11 34 fun r9 =>
    q_gI h8 (.ref l0) 11 36 fun x10 =>
    q_ast h8 (.ref r9) 0 (x10 + (2 : Int32)) l3 fun h11 =>
    q_gI h11 (.ref l0) 11 36 fun x12 =>
    q_pV h11 (.ref l0) 11 36 (.int (x12 + (3 : Int32))) fun h13 =>
    some (.inl none, h13)
  else
    some (.inl none, h1)) := by
  refine (q_cut_eq _ _ [0] 200 _ _ _ _).trans ?_
  rfl
set_option maxRecDepth 20000 in
theorem k_X11_readStep_0 (call : Nat → List Value → qH → qR) (l0 : Nat) (h : qH) : q_run qm_X11_readStep call 0 [.ref l0, q_junk, q_junk, q_junk] [] h =
  q_rcv h (.ref l0) 11 (q_rI (call 173 [.ref l0] h) q_t0 fun x2 h1 =>
  q_rI (call 174 [.float 17] h1) q_t0 fun x4 h3 =>
  if q_cmp .eq x2 x4 = true then
    q_run qm_X11_readStep call 25 [.ref l0, .int x2, q_junk, q_junk] [] h3
  else
    q_rI (call 174 [.float 13] h3) q_t0 fun x6 h5 =>
    if q_cmp .ne x2 x6 = true then
      q_rI (call 174 [.float 15] h5) q_t0 fun x8 h7 =>
      if q_cmp .eq x2 x8 = true then
        q_run qm_X11_readStep call 73 [.ref l0, .int x2, q_junk, q_junk] [] h7
      else
        q_rI (call 174 [.float 16] h7) q_t0 fun x10 h9 =>
        if q_cmp .ne x2 x10 = true then
          q_rI (call 174 [.float 9] h9) q_t0 fun x12 h11 =>
          if q_cmp .ne x2 x12 = true then
            q_rI (call 174 [.float 18] h11) q_t0 fun x14 h13 =>
            if q_cmp .ne x2 x14 = true then
              q_gI h13 (.ref l0) 11 4 fun x15 =>
              q_rcv h13 (.ref l0) 11 (q_rV (call 169 [.ref l0, .int (1 : Int32), .int x15] h13) q_t0 fun h16 =>
              q_run qm_X11_readStep call 260 [.ref l0, .int x2, q_junk, q_junk] [] h16)
            else
              q_rcv h13 (.ref l0) 11 (q_rV (call 191 [.ref l0, .int (5 : Int32)] h13) q_t0 fun h18 =>
              q_rcv h18 (.ref l0) 11 (q_rI (call 176 [.ref l0, .int (0 : Int32), .int (30 : Int32)] h18) q_t0 fun x21 h20 =>
              q_rcv h20 (.ref l0) 11 (q_rV (call 177 [.ref l0, .int (91 : Int32)] h20) q_t0 fun h22 =>
              q_gI h22 (.ref l0) 11 36 fun x24 =>
              q_rcv h22 (.ref l0) 11 (q_rV (call 201 [.ref l0, .int (5 : Int32), .int x21, .int (0 : Int32)] h22) q_t0 fun h25 =>
              q_run qm_X11_readStep call 190 [.ref l0, .int x2, .int x21, .int x24] [] h25))))
          else
            q_rcv h11 (.ref l0) 11 (q_rV (call 175 [.ref l0] h11) q_t0 fun h27 =>
            q_rcv h27 (.ref l0) 11 (q_rI (call 176 [.ref l0, .int (0 : Int32), .int (9 : Int32)] h27) q_t0 fun x30 h29 =>
            q_rcv h29 (.ref l0) 11 (q_rV (call 201 [.ref l0, .int (2 : Int32), .int x30, .int (0 : Int32)] h29) q_t0 fun h31 =>
            q_run qm_X11_readStep call 260 [.ref l0, .int x2, q_junk, q_junk] [] h31)))
        else
          q_run qm_X11_readStep call 73 [.ref l0, .int x2, q_junk, q_junk] [] h9
    else
      q_run qm_X11_readStep call 25 [.ref l0, .int x2, q_junk, q_junk] [] h5) := by
  refine (q_cut_eq _ _ [0, 25, 45, 73, 105, 190, 213, 248, 260] 200 _ _ _ _).trans ?_
  rfl
set_option maxRecDepth 20000 in
theorem k_X11_readStep_25 (call : Nat → List Value → qH → qR) (l0 : Nat) (l1 : Int32) (l2 : Value) (l3 : Value) (h : qH) : q_run qm_X11_readStep call 25 [.ref l0, .int l1, l2, l3] [] h =
  q_rcv h (.ref l0) 11 (q_rV (call 175 [.ref l0] h) q_t0 fun h1 =>
  q_rI (call 174 [.float 17] h1) q_t0 fun x4 h3 =>
  if q_cmp .ne l1 x4 = true then
    q_run qm_X11_readStep call 45 [.ref l0, .int l1, l2, l3] [.int (4 : Int32), .ref l0] h3
  else
    q_run qm_X11_readStep call 45 [.ref l0, .int l1, l2, l3] [.int (3 : Int32), .ref l0] h3) := by
  refine (q_cut_eq _ _ [0, 25, 45, 73, 105, 190, 213, 248, 260] 200 _ _ _ _).trans ?_
  rfl
set_option maxRecDepth 20000 in
theorem k_X11_readStep_45 (call : Nat → List Value → qH → qR) (l0 : Nat) (l1 : Value) (l2 : Value) (l3 : Value) (s0 : Nat) (s1 : Int32) (h : qH) : q_run qm_X11_readStep call 45 [.ref l0, l1, l2, l3] [.int s1, .ref s0] h =
  q_rcv h (.ref s0) 11 (q_rV (call 201 [.ref s0, .int s1, .int (0 : Int32), .int (0 : Int32)] h) q_t0 fun h1 =>
  q_run qm_X11_readStep call 260 [.ref l0, l1, l2, l3] [] h1) := by
  refine (q_cut_eq _ _ [0, 25, 45, 73, 105, 190, 213, 248, 260] 200 _ _ _ _).trans ?_
  rfl
set_option maxRecDepth 20000 in
theorem k_X11_readStep_73 (call : Nat → List Value → qH → qR) (l0 : Nat) (l1 : Int32) (l2 : Value) (l3 : Value) (h : qH) : q_run qm_X11_readStep call 73 [.ref l0, .int l1, l2, l3] [] h =
  q_rcv h (.ref l0) 11 (q_rV (call 175 [.ref l0] h) q_t0 fun h1 =>
  q_gI h1 (.ref l0) 11 22 fun x3 =>
  q_rcv h1 (.ref l0) 11 (q_rI (call 176 [.ref l0, .int (0 : Int32), .int (x3 - (1 : Int32))] h1) q_t0 fun x5 h4 =>
  q_rI (call 174 [.float 15] h4) q_t0 fun x7 h6 =>
  if q_cmp .ne l1 x7 = true then
    q_run qm_X11_readStep call 105 [.ref l0, .int l1, .int x5, l3] [.int (1 : Int32), .ref l0] h6
  else
    q_run qm_X11_readStep call 105 [.ref l0, .int l1, .int x5, l3] [.int (0 : Int32), .ref l0] h6)) := by
  refine (q_cut_eq _ _ [0, 25, 45, 73, 105, 190, 213, 248, 260] 200 _ _ _ _).trans ?_
  rfl
set_option maxRecDepth 20000 in
theorem k_X11_readStep_105 (call : Nat → List Value → qH → qR) (l0 : Nat) (l1 : Value) (l2 : Int32) (l3 : Value) (s0 : Nat) (s1 : Int32) (h : qH) : q_run qm_X11_readStep call 105 [.ref l0, l1, .int l2, l3] [.int s1, .ref s0] h =
  q_rcv h (.ref l0) 11 (q_rI (call 176 [.ref l0, .int (1 : Int32), .int (9 : Int32)] h) q_t0 fun x2 h1 =>
  q_rcv h1 (.ref s0) 11 (q_rV (call 201 [.ref s0, .int s1, .int l2, .int x2] h1) q_t0 fun h3 =>
  q_run qm_X11_readStep call 260 [.ref l0, l1, .int l2, l3] [] h3)) := by
  refine (q_cut_eq _ _ [0, 25, 45, 73, 105, 190, 213, 248, 260] 200 _ _ _ _).trans ?_
  rfl
set_option maxRecDepth 20000 in
theorem k_X11_readStep_190 (call : Nat → List Value → qH → qR) (l0 : Nat) (l1 : Value) (l2 : Value) (l3 : Int32) (h : qH) : q_run qm_X11_readStep call 190 [.ref l0, l1, l2, .int l3] [] h =
  q_rcv h (.ref l0) 11 (q_rI (call 168 [.ref l0] h) q_t0 fun x2 h1 =>
  if q_cmp .eq x2 (0 : Int32) = true then
    q_run qm_X11_readStep call 213 [.ref l0, l1, l2, .int l3] [] h1
  else
    q_rcv h1 (.ref l0) 11 (q_rI (call 170 [.ref l0] h1) q_t0 fun x4 h3 =>
    if q_cmp .eq x4 (93 : Int32) = true then
      q_run qm_X11_readStep call 213 [.ref l0, l1, l2, .int l3] [] h3
    else
      q_rcv h3 (.ref l0) 11 (q_rV (call 202 [.ref l0] h3) q_t0 fun h5 =>
      q_run qm_X11_readStep call 190 [.ref l0, l1, l2, .int l3] [] h5))) := by
  refine (q_cut_eq _ _ [0, 25, 45, 73, 105, 190, 213, 248, 260] 200 _ _ _ _).trans ?_
  rfl
set_option maxRecDepth 20000 in
theorem k_X11_readStep_213 (call : Nat → List Value → qH → qR) (l0 : Nat) (l1 : Value) (l2 : Value) (l3 : Int32) (h : qH) : q_run qm_X11_readStep call 213 [.ref l0, l1, l2, .int l3] [] h =
  q_rcv h (.ref l0) 11 (q_rV (call 177 [.ref l0, .int (93 : Int32)] h) q_t0 fun h1 =>
  q_gI h1 (.ref l0) 11 7 fun x3 =>
  q_pV h1 (.ref l0) 11 7 (.int (x3 - (1 : Int32))) fun h4 =>
  q_rcv h4 (.ref l0) 11 (q_rI (call 168 [.ref l0] h4) q_t0 fun x6 h5 =>
  if q_cmp .eq x6 (0 : Int32) = true then
    q_run qm_X11_readStep call 248 [.ref l0, l1, l2, .int l3] [] h5
  else
    q_gR h5 (.ref l0) 11 34 fun r7 =>
    q_gI h5 (.ref l0) 11 36 fun x8 =>
    q_ast h5 (.ref r7) 0 (l3 + (2 : Int32)) x8 fun h9 =>
    q_run qm_X11_readStep call 248 [.ref l0, l1, l2, .int l3] [] h9)) := by
  refine (q_cut_eq _ _ [0, 25, 45, 73, 105, 190, 213, 248, 260] 200 _ _ _ _).trans ?_
  rfl
set_option maxRecDepth 20000 in
theorem k_X11_readStep_248 (call : Nat → List Value → qH → qR) (l0 : Nat) (l1 : Value) (l2 : Value) (l3 : Value) (h : qH) : q_run qm_X11_readStep call 248 [.ref l0, l1, l2, l3] [] h =
  q_run qm_X11_readStep call 260 [.ref l0, l1, l2, l3] [] h := by
  refine (q_cut_eq _ _ [0, 25, 45, 73, 105, 190, 213, 248, 260] 200 _ _ _ _).trans ?_
  rfl
set_option maxRecDepth 20000 in
theorem k_X11_readStep_260 (call : Nat → List Value → qH → qR) (l0 : Nat) (l1 : Value) (l2 : Value) (l3 : Value) (h : qH) : q_run qm_X11_readStep call 260 [.ref l0, l1, l2, l3] [] h =
  q_rcv h (.ref l0) 11 (q_rV (call 177 [.ref l0, .int (59 : Int32)] h) q_t0 fun h1 =>
  some (.inl none, h1)) := by
  refine (q_cut_eq _ _ [0, 25, 45, 73, 105, 190, 213, 248, 260] 200 _ _ _ _).trans ?_
  rfl
set_option maxRecDepth 20000 in
theorem k_X11_play_0 (call : Nat → List Value → qH → qR) (l0 : Nat) (l1 : Int32) (h : qH) : q_run qm_X11_play call 0 [.ref l0, .int l1, q_junk, q_junk] [] h =
  q_pV h (.ref l0) 11 0 (.int (0 : Int32)) fun h1 =>
  if q_cmp .lt l1 (0 : Int32) = true then
    q_run qm_X11_play call 29 [.ref l0, .int l1, q_junk, q_junk] [.ref l0] h1
  else
    q_gI h1 (.ref l0) 11 2 fun x2 =>
    if q_cmp .gt l1 x2 = true then
      q_run qm_X11_play call 29 [.ref l0, .int l1, q_junk, q_junk] [.ref l0] h1
    else
      if q_cmp .gt l1 (150 : Int32) = true then
        q_run qm_X11_play call 29 [.ref l0, .int l1, q_junk, q_junk] [.ref l0] h1
      else
        q_run qm_X11_play call 30 [.ref l0, .int l1, q_junk, q_junk] [.int (1 : Int32), .ref l0] h1 := by
  refine (q_cut_eq _ _ [0, 29, 30, 68, 89, 123, 207] 200 _ _ _ _).trans ?_
  rfl
set_option maxRecDepth 20000 in
theorem k_X11_play_29 (call : Nat → List Value → qH → qR) (l0 : Nat) (l1 : Int32) (l2 : Value) (l3 : Value) (s0 : Nat) (h : qH) : q_run qm_X11_play call 29 [.ref l0, .int l1, l2, l3] [.ref s0] h =
  q_run qm_X11_play call 30 [.ref l0, .int l1, l2, l3] [.int (0 : Int32), .ref s0] h := by
  refine (q_cut_eq _ _ [0, 29, 30, 68, 89, 123, 207] 200 _ _ _ _).trans ?_
  rfl
set_option maxRecDepth 20000 in
theorem k_X11_play_30 (call : Nat → List Value → qH → qR) (l0 : Nat) (l1 : Int32) (l2 : Value) (l3 : Value) (s0 : Nat) (s1 : Int32) (h : qH) : q_run qm_X11_play call 30 [.ref l0, .int l1, l2, l3] [.int s1, .ref s0] h =
  q_rcv h (.ref s0) 11 (q_rI (call 164 [.ref s0, .int s1, .int (1 : Int32), .int (1 : Int32)] h) q_t0 fun x2 h1 =>
  if q_cmp .ne x2 (0 : Int32) = true then
    q_rcv h1 (.ref l0) 11 (q_rV (call 179 [.ref l0, .int l1] h1) q_t0 fun h3 =>
    q_gI h3 (.ref l0) 11 37 fun x5 =>
    if q_cmp .ne x5 (16 : Int32) = true then
      q_pV h3 (.ref l0) 11 36 (.int (0 : Int32)) fun h6 =>
      q_run qm_X11_play call 68 [.ref l0, .int l1, l2, l3] [] h6
    else
      q_rcv h3 (.ref l0) 11 (q_rI (call 180 [.ref l0, .int (0 : Int32)] h3) q_t0 fun x8 h7 =>
      some (.inl (some (.int (-20 : Int32))), h7)))
  else
    some (.inl (some (.int (0 : Int32))), h1)) := by
  refine (q_cut_eq _ _ [0, 29, 30, 68, 89, 123, 207] 200 _ _ _ _).trans ?_
  rfl
set_option maxRecDepth 20000 in
theorem k_X11_play_68 (call : Nat → List Value → qH → qR) (l0 : Nat) (l1 : Value) (l2 : Value) (l3 : Value) (h : qH) : q_run qm_X11_play call 68 [.ref l0, l1, l2, l3] [] h =
  q_rcv h (.ref l0) 11 (q_rI (call 168 [.ref l0] h) q_t0 fun x2 h1 =>
  if q_cmp .eq x2 (0 : Int32) = true then
    q_run qm_X11_play call 89 [.ref l0, l1, l2, l3] [] h1
  else
    q_rcv h1 (.ref l0) 11 (q_rI (call 178 [.ref l0] h1) q_t0 fun x4 h3 =>
    if q_cmp .eq x4 (0 : Int32) = true then
      q_run qm_X11_play call 89 [.ref l0, l1, l2, l3] [] h3
    else
      q_rcv h3 (.ref l0) 11 (q_rV (call 202 [.ref l0] h3) q_t0 fun h5 =>
      q_run qm_X11_play call 68 [.ref l0, l1, l2, l3] [] h5))) := by
  refine (q_cut_eq _ _ [0, 29, 30, 68, 89, 123, 207] 200 _ _ _ _).trans ?_
  rfl
set_option maxRecDepth 20000 in
theorem k_X11_play_89 (call : Nat → List Value → qH → qR) (l0 : Nat) (l1 : Value) (l2 : Value) (l3 : Value) (h : qH) : q_run qm_X11_play call 89 [.ref l0, l1, l2, l3] [] h =
  q_rcv h (.ref l0) 11 (q_rI (call 180 [.ref l0, .int (0 : Int32)] h) q_t0 fun x2 h1 =>
  q_gI h1 (.ref l0) 11 5 fun x3 =>
  if q_cmp .eq x3 (-1 : Int32) = true then
    q_gR h1 (.ref l0) 11 34 fun r4 =>
    q_gR h1 (.ref l0) 11 35 fun r5 =>
    q_gI h1 (.ref l0) 11 36 fun x6 =>
    q_rcv h1 (.ref l0) 11 (q_rV (call 182 [.ref l0, .ref r4, .ref r5, .int x6] h1) q_t0 fun h7 =>
    q_run qm_X11_play call 123 [.ref l0, l1, .int x2, .int (0 : Int32)] [] h7)
  else
    some (.inl (some (.int x2)), h1)) := by
  refine (q_cut_eq _ _ [0, 29, 30, 68, 89, 123, 207] 200 _ _ _ _).trans ?_
  rfl
set_option maxRecDepth 20000 in
theorem k_X11_play_123 (call : Nat → List Value → qH → qR) (l0 : Nat) (l1 : Value) (l2 : Value) (l3 : Int32) (h : qH) : q_run qm_X11_play call 123 [.ref l0, l1, l2, .int l3] [] h =
  if q_cmp .ge l3 (47 : Int32) = true then
    q_gI h (.ref l0) 11 37 fun x1 =>
    q_pV h (.ref l0) 11 37 (.int (x1 + (1 : Int32))) fun h2 =>
    q_rcv h2 (.ref l0) 11 (q_rV (call 205 [.ref l0] h2) q_t0 fun h3 =>
    q_pV h3 (.ref l0) 11 39 (.int (0 : Int32)) fun h5 =>
    q_pV h5 (.ref l0) 11 40 (.int (0 : Int32)) fun h6 =>
    q_pV h6 (.ref l0) 11 41 (.int (0 : Int32)) fun h7 =>
    q_gI h7 (.ref l0) 11 36 fun x8 =>
    q_rcv h7 (.ref l0) 11 (q_rV (call 204 [.ref l0, .int (0 : Int32), .int x8] h7) q_t0 fun h9 =>
    q_gR h9 (.ref l0) 11 43 fun r11 =>
    q_gR h9 (.ref l0) 11 42 fun r12 =>
    q_rcv h9 (.ref l0) 11 (q_rV (call 182 [.ref l0, .ref r11, .ref r12, .int (47 : Int32)] h9) q_t0 fun h13 =>
    q_run qm_X11_play call 207 [.ref l0, l1, l2, .int l3] [] h13)))
  else
    q_gR h (.ref l0) 11 44 fun r15 =>
    q_gI h (.ref l0) 11 37 fun x16 =>
    q_gR h (.ref l0) 11 42 fun r17 =>
    q_ald h (.ref r17) 0 l3 fun x18 =>
    q_ast h (.ref r15) 0 (((47 : Int32) * x16) + l3) x18 fun h19 =>
    q_run qm_X11_play call 123 [.ref l0, l1, l2, .int (l3 + (1 : Int32))] [] h19 := by
  refine (q_cut_eq _ _ [0, 29, 30, 68, 89, 123, 207] 200 _ _ _ _).trans ?_
  rfl
set_option maxRecDepth 20000 in
theorem k_X11_play_207 (call : Nat → List Value → qH → qR) (l0 : Nat) (l1 : Value) (l2 : Value) (l3 : Value) (h : qH) : q_run qm_X11_play call 207 [.ref l0, l1, l2, l3] [] h =
  q_gI h (.ref l0) 11 41 fun x1 =>
  q_pV h (.ref l0) 11 38 (.int x1) fun h2 =>
  q_gI h2 (.ref l0) 11 40 fun x3 =>
  some (.inl (some (.int x3)), h2) := by
  refine (q_cut_eq _ _ [0, 29, 30, 68, 89, 123, 207] 200 _ _ _ _).trans ?_
  rfl
set_option maxRecDepth 20000 in
theorem k_X11_goesSteps_0 (call : Nat → List Value → qH → qR) (l0 : Nat) (l1 : Int32) (l2 : Int32) (h : qH) : q_run qm_X11_goesSteps call 0 [.ref l0, .int l1, .int l2, q_junk, q_junk, q_junk] [] h =
  q_run qm_X11_goesSteps call 2 [.ref l0, .int l1, .int l2, .int l1, q_junk, q_junk] [] h := by
  refine (q_cut_eq _ _ [0, 2, 50, 88, 146, 152] 200 _ _ _ _).trans ?_
  rfl
set_option maxRecDepth 20000 in
theorem k_X11_goesSteps_2 (call : Nat → List Value → qH → qR) (l0 : Nat) (l1 : Value) (l2 : Int32) (l3 : Int32) (l4 : Value) (l5 : Value) (h : qH) : q_run qm_X11_goesSteps call 2 [.ref l0, l1, .int l2, .int l3, l4, l5] [] h =
  if q_cmp .ge l3 l2 = true then
    q_run qm_X11_goesSteps call 152 [.ref l0, l1, .int l2, .int l3, l4, l5] [] h
  else
    q_gI h (.ref l0) 11 39 fun x1 =>
    if q_cmp .ge x1 (200 : Int32) = true then
      q_run qm_X11_goesSteps call 152 [.ref l0, l1, .int l2, .int l3, l4, l5] [] h
    else
      q_gI h (.ref l0) 11 39 fun x2 =>
      q_pV h (.ref l0) 11 39 (.int (x2 + (1 : Int32))) fun h3 =>
      q_gR h3 (.ref l0) 11 35 fun r4 =>
      q_ald h3 (.ref r4) 0 l3 fun x5 =>
      if q_cmp .ne x5 (5 : Int32) = true then
        q_gR h3 (.ref l0) 11 35 fun r6 =>
        q_ald h3 (.ref r6) 0 l3 fun x7 =>
        q_gR h3 (.ref l0) 11 35 fun r8 =>
        q_ald h3 (.ref r8) 0 (l3 + (1 : Int32)) fun x9 =>
        q_gR h3 (.ref l0) 11 35 fun r10 =>
        q_ald h3 (.ref r10) 0 (l3 + (2 : Int32)) fun x11 =>
        q_rcv h3 (.ref l0) 11 (q_rI (call 222 [.ref l0, .int x7, .int x9, .int x11] h3) q_t0 fun x13 h12 =>
        if q_cmp .eq x13 (0 : Int32) = true then
          q_gI h12 (.ref l0) 11 41 fun x14 =>
          q_pV h12 (.ref l0) 11 41 (.int (x14 + (1 : Int32))) fun h15 =>
          q_run qm_X11_goesSteps call 146 [.ref l0, l1, .int l2, .int l3, l4, l5] [] h15
        else
          q_gI h12 (.ref l0) 11 40 fun x16 =>
          q_pV h12 (.ref l0) 11 40 (.int (x16 + (1 : Int32))) fun h17 =>
          q_run qm_X11_goesSteps call 146 [.ref l0, l1, .int l2, .int l3, l4, l5] [] h17)
      else
        q_gR h3 (.ref l0) 11 35 fun r18 =>
        q_ald h3 (.ref r18) 0 (l3 + (2 : Int32)) fun x19 =>
        q_run qm_X11_goesSteps call 50 [.ref l0, l1, .int l2, .int l3, .int x19, .int (0 : Int32)] [] h3 := by
  refine (q_cut_eq _ _ [0, 2, 50, 88, 146, 152] 200 _ _ _ _).trans ?_
  rfl
set_option maxRecDepth 20000 in
theorem k_X11_goesSteps_50 (call : Nat → List Value → qH → qR) (l0 : Nat) (l1 : Value) (l2 : Int32) (l3 : Int32) (l4 : Int32) (l5 : Int32) (h : qH) : q_run qm_X11_goesSteps call 50 [.ref l0, l1, .int l2, .int l3, .int l4, .int l5] [] h =
  q_gR h (.ref l0) 11 35 fun r1 =>
  q_ald h (.ref r1) 0 (l3 + (1 : Int32)) fun x2 =>
  if q_cmp .ge l5 x2 = true then
    q_run qm_X11_goesSteps call 88 [.ref l0, l1, .int l2, .int l3, .int l4, .int l5] [] h
  else
    q_gI h (.ref l0) 11 39 fun x3 =>
    if q_cmp .ge x3 (200 : Int32) = true then
      q_run qm_X11_goesSteps call 88 [.ref l0, l1, .int l2, .int l3, .int l4, .int l5] [] h
    else
      q_rcv h (.ref l0) 11 (q_rV (call 204 [.ref l0, .int (l3 + (3 : Int32)), .int l4] h) q_t0 fun h4 =>
      q_run qm_X11_goesSteps call 50 [.ref l0, l1, .int l2, .int l3, .int l4, .int (l5 + (1 : Int32))] [] h4) := by
  refine (q_cut_eq _ _ [0, 2, 50, 88, 146, 152] 200 _ _ _ _).trans ?_
  rfl
set_option maxRecDepth 20000 in
theorem k_X11_goesSteps_88 (call : Nat → List Value → qH → qR) (l0 : Nat) (l1 : Value) (l2 : Int32) (l3 : Value) (l4 : Int32) (l5 : Value) (h : qH) : q_run qm_X11_goesSteps call 88 [.ref l0, l1, .int l2, l3, .int l4, l5] [] h =
  q_run qm_X11_goesSteps call 2 [.ref l0, l1, .int l2, .int l4, .int l4, l5] [] h := by
  refine (q_cut_eq _ _ [0, 2, 50, 88, 146, 152] 200 _ _ _ _).trans ?_
  rfl
set_option maxRecDepth 20000 in
theorem k_X11_goesSteps_146 (call : Nat → List Value → qH → qR) (l0 : Nat) (l1 : Value) (l2 : Int32) (l3 : Int32) (l4 : Value) (l5 : Value) (h : qH) : q_run qm_X11_goesSteps call 146 [.ref l0, l1, .int l2, .int l3, l4, l5] [] h =
  q_run qm_X11_goesSteps call 2 [.ref l0, l1, .int l2, .int (l3 + (3 : Int32)), l4, l5] [] h := by
  refine (q_cut_eq _ _ [0, 2, 50, 88, 146, 152] 200 _ _ _ _).trans ?_
  rfl
set_option maxRecDepth 20000 in
theorem k_X11_goesSteps_152 (call : Nat → List Value → qH → qR) (l0 : Value) (l1 : Value) (l2 : Value) (l3 : Value) (l4 : Value) (l5 : Value) (h : qH) : q_run qm_X11_goesSteps call 152 [l0, l1, l2, l3, l4, l5] [] h =
  some (.inl none, h) := by
  refine (q_cut_eq _ _ [0, 2, 50, 88, 146, 152] 200 _ _ _ _).trans ?_
  rfl
set_option maxRecDepth 20000 in
theorem k_X11_take_0 (call : Nat → List Value → qH → qR) (l0 : Nat) (h : qH) : q_run qm_X11_take call 0 [.ref l0] [] h =
  q_gR h (.ref l0) 11 42 fun r1 =>
  q_gR h (.ref l0) 11 43 fun r2 =>
  q_rcv h (.ref l0) 11 (q_rV (call 182 [.ref l0, .ref r1, .ref r2, .int (47 : Int32)] h) q_t0 fun h3 =>
  some (.inl none, h3)) := by
  refine (q_cut_eq _ _ [0] 200 _ _ _ _).trans ?_
  rfl
set_option maxRecDepth 20000 in
theorem k_X11_manyAt_0 (call : Nat → List Value → qH → qR) (l0 : Nat) (l1 : Int32) (h : qH) : q_run qm_X11_manyAt call 0 [.ref l0, .int l1, q_junk, q_junk] [] h =
  q_run qm_X11_manyAt call 4 [.ref l0, .int l1, .int (0 : Int32), .int (0 : Int32)] [] h := by
  refine (q_cut_eq _ _ [0, 4, 30] 200 _ _ _ _).trans ?_
  rfl
set_option maxRecDepth 20000 in
theorem k_X11_manyAt_4 (call : Nat → List Value → qH → qR) (l0 : Nat) (l1 : Int32) (l2 : Int32) (l3 : Int32) (h : qH) : q_run qm_X11_manyAt call 4 [.ref l0, .int l1, .int l2, .int l3] [] h =
  q_gI h (.ref l0) 11 22 fun x1 =>
  if q_cmp .ge l3 x1 = true then
    some (.inl (some (.int l2)), h)
  else
    q_gR h (.ref l0) 11 43 fun r2 =>
    q_ald h (.ref r2) 0 ((0 : Int32) + l3) fun x3 =>
    if q_cmp .ne x3 l1 = true then
      q_run qm_X11_manyAt call 30 [.ref l0, .int l1, .int l2, .int l3] [.int (0 : Int32), .int l2] h
    else
      q_run qm_X11_manyAt call 30 [.ref l0, .int l1, .int l2, .int l3] [.int (1 : Int32), .int l2] h := by
  refine (q_cut_eq _ _ [0, 4, 30] 200 _ _ _ _).trans ?_
  rfl
set_option maxRecDepth 20000 in
theorem k_X11_manyAt_30 (call : Nat → List Value → qH → qR) (l0 : Nat) (l1 : Int32) (l2 : Value) (l3 : Int32) (s0 : Int32) (s1 : Int32) (h : qH) : q_run qm_X11_manyAt call 30 [.ref l0, .int l1, l2, .int l3] [.int s1, .int s0] h =
  q_run qm_X11_manyAt call 4 [.ref l0, .int l1, .int (s0 + s1), .int (l3 + (1 : Int32))] [] h := by
  refine (q_cut_eq _ _ [0, 4, 30] 200 _ _ _ _).trans ?_
  rfl
set_option maxRecDepth 20000 in
theorem k_X11_over_0 (call : Nat → List Value → qH → qR) (l0 : Nat) (l1 : Int32) (h : qH) : q_run qm_X11_over call 0 [.ref l0, .int l1] [] h =
  q_gR h (.ref l0) 11 43 fun r1 =>
  q_ald h (.ref r1) 0 ((0 : Int32) + l1) fun x2 =>
  if q_cmp .ge x2 (0 : Int32) = true then
    q_gR h (.ref l0) 11 43 fun r3 =>
    q_ald h (.ref r3) 0 ((0 : Int32) + l1) fun x4 =>
    q_rcv h (.ref l0) 11 (q_rI (call 206 [.ref l0, .int x4] h) q_t0 fun x6 h5 =>
    q_gR h5 (.ref l0) 11 43 fun r7 =>
    q_ald h5 (.ref r7) 0 ((10 : Int32) + l1) fun x8 =>
    q_run qm_X11_over call 39 [.ref l0, .int l1] [.int ((x6 - (1 : Int32)) - x8)] h5)
  else
    q_run qm_X11_over call 39 [.ref l0, .int l1] [.int (0 : Int32)] h := by
  refine (q_cut_eq _ _ [0, 39] 200 _ _ _ _).trans ?_
  rfl
set_option maxRecDepth 20000 in
theorem k_X11_over_39 (call : Nat → List Value → qH → qR) (l0 : Value) (l1 : Value) (s0 : Int32) (h : qH) : q_run qm_X11_over call 39 [l0, l1] [.int s0] h =
  some (.inl (some (.int s0)), h) := by
  refine (q_cut_eq _ _ [0, 39] 200 _ _ _ _).trans ?_
  rfl
set_option maxRecDepth 20000 in
theorem k_X11_canFlick_0 (call : Nat → List Value → qH → qR) (l0 : Nat) (l1 : Int32) (h : qH) : q_run qm_X11_canFlick call 0 [.ref l0, .int l1] [] h =
  q_gR h (.ref l0) 11 43 fun r1 =>
  q_ald h (.ref r1) 0 ((0 : Int32) + l1) fun x2 =>
  if q_cmp .lt x2 (0 : Int32) = true then
    q_run qm_X11_canFlick call 23 [.ref l0, .int l1] [] h
  else
    q_rcv h (.ref l0) 11 (q_rI (call 207 [.ref l0, .int l1] h) q_t0 fun x4 h3 =>
    if q_cmp .ne x4 (0 : Int32) = true then
      q_run qm_X11_canFlick call 23 [.ref l0, .int l1] [] h3
    else
      q_run qm_X11_canFlick call 24 [.ref l0, .int l1] [.int (1 : Int32)] h3) := by
  refine (q_cut_eq _ _ [0, 23, 24] 200 _ _ _ _).trans ?_
  rfl
set_option maxRecDepth 20000 in
theorem k_X11_canFlick_23 (call : Nat → List Value → qH → qR) (l0 : Value) (l1 : Value) (h : qH) : q_run qm_X11_canFlick call 23 [l0, l1] [] h =
  q_run qm_X11_canFlick call 24 [l0, l1] [.int (0 : Int32)] h := by
  refine (q_cut_eq _ _ [0, 23, 24] 200 _ _ _ _).trans ?_
  rfl
set_option maxRecDepth 20000 in
theorem k_X11_canFlick_24 (call : Nat → List Value → qH → qR) (l0 : Value) (l1 : Value) (s0 : Int32) (h : qH) : q_run qm_X11_canFlick call 24 [l0, l1] [.int s0] h =
  q_boo true s0 fun z => some (.inl (some (.int z)), h) := by
  refine (q_cut_eq _ _ [0, 23, 24] 200 _ _ _ _).trans ?_
  rfl
set_option maxRecDepth 20000 in
theorem k_X11_whoAt_0 (call : Nat → List Value → qH → qR) (l0 : Nat) (l1 : Int32) (l2 : Int32) (h : qH) : q_run qm_X11_whoAt call 0 [.ref l0, .int l1, .int l2, q_junk] [] h =
  q_run qm_X11_whoAt call 2 [.ref l0, .int l1, .int l2, .int (0 : Int32)] [] h := by
  refine (q_cut_eq _ _ [0, 2, 37] 200 _ _ _ _).trans ?_
  rfl
set_option maxRecDepth 20000 in
theorem k_X11_whoAt_2 (call : Nat → List Value → qH → qR) (l0 : Nat) (l1 : Int32) (l2 : Int32) (l3 : Int32) (h : qH) : q_run qm_X11_whoAt call 2 [.ref l0, .int l1, .int l2, .int l3] [] h =
  q_gI h (.ref l0) 11 22 fun x1 =>
  if q_cmp .ge l3 x1 = true then
    some (.inl (some (.int (-1 : Int32))), h)
  else
    q_gR h (.ref l0) 11 43 fun r2 =>
    q_ald h (.ref r2) 0 ((0 : Int32) + l3) fun x3 =>
    if q_cmp .ne x3 l1 = true then
      q_run qm_X11_whoAt call 37 [.ref l0, .int l1, .int l2, .int l3] [] h
    else
      q_gR h (.ref l0) 11 43 fun r4 =>
      q_ald h (.ref r4) 0 ((10 : Int32) + l3) fun x5 =>
      if q_cmp .ne x5 l2 = true then
        q_run qm_X11_whoAt call 37 [.ref l0, .int l1, .int l2, .int l3] [] h
      else
        some (.inl (some (.int l3)), h) := by
  refine (q_cut_eq _ _ [0, 2, 37] 200 _ _ _ _).trans ?_
  rfl
set_option maxRecDepth 20000 in
theorem k_X11_whoAt_37 (call : Nat → List Value → qH → qR) (l0 : Nat) (l1 : Int32) (l2 : Int32) (l3 : Int32) (h : qH) : q_run qm_X11_whoAt call 37 [.ref l0, .int l1, .int l2, .int l3] [] h =
  q_run qm_X11_whoAt call 2 [.ref l0, .int l1, .int l2, .int (l3 + (1 : Int32))] [] h := by
  refine (q_cut_eq _ _ [0, 2, 37] 200 _ _ _ _).trans ?_
  rfl
set_option maxRecDepth 20000 in
theorem k_X11_cupAt_0 (call : Nat → List Value → qH → qR) (l0 : Nat) (l1 : Int32) (h : qH) : q_run qm_X11_cupAt call 0 [.ref l0, .int l1, q_junk] [] h =
  q_run qm_X11_cupAt call 2 [.ref l0, .int l1, .int (0 : Int32)] [] h := by
  refine (q_cut_eq _ _ [0, 2] 200 _ _ _ _).trans ?_
  rfl
set_option maxRecDepth 20000 in
theorem k_X11_cupAt_2 (call : Nat → List Value → qH → qR) (l0 : Nat) (l1 : Int32) (l2 : Int32) (h : qH) : q_run qm_X11_cupAt call 2 [.ref l0, .int l1, .int l2] [] h =
  q_gI h (.ref l0) 11 23 fun x1 =>
  if q_cmp .ge l2 x1 = true then
    some (.inl (some (.int (-1 : Int32))), h)
  else
    q_gR h (.ref l0) 11 15 fun r2 =>
    q_ald h (.ref r2) 0 ((2 : Int32) * l2) fun x3 =>
    if q_cmp .ne x3 l1 = true then
      q_run qm_X11_cupAt call 2 [.ref l0, .int l1, .int (l2 + (1 : Int32))] [] h
    else
      some (.inl (some (.int l2)), h) := by
  refine (q_cut_eq _ _ [0, 2] 200 _ _ _ _).trans ?_
  rfl
set_option maxRecDepth 20000 in
theorem k_X11_fliesOf_0 (call : Nat → List Value → qH → qR) (l0 : Nat) (l1 : Int32) (l2 : Int32) (l3 : Int32) (l4 : Int32) (l5 : Int32) (l6 : Int32) (l7 : Int32) (l8 : Int32) (l9 : Int32) (h : qH) : q_run qm_X11_fliesOf call 0 [.ref l0, .int l1, .int l2, .int l3, .int l4, .int l5, .int l6, .int l7, .int l8, .int l9] [] h =
  q_gR h (.ref l0) 11 33 fun r1 =>
  q_ast h (.ref r1) 0 (0 : Int32) l1 fun h2 =>
  q_gR h2 (.ref l0) 11 33 fun r3 =>
  q_ast h2 (.ref r3) 0 (1 : Int32) l2 fun h4 =>
  q_gR h4 (.ref l0) 11 33 fun r5 =>
  q_ast h4 (.ref r5) 0 (2 : Int32) l3 fun h6 =>
  q_gR h6 (.ref l0) 11 33 fun r7 =>
  q_ast h6 (.ref r7) 0 (3 : Int32) l4 fun h8 =>
  q_gR h8 (.ref l0) 11 33 fun r9 =>
  q_ast h8 (.ref r9) 0 (4 : Int32) l5 fun h10 =>
  q_gR h10 (.ref l0) 11 33 fun r11 =>
  q_ast h10 (.ref r11) 0 (5 : Int32) l6 fun h12 =>
  q_gR h12 (.ref l0) 11 33 fun r13 =>
  q_ast h12 (.ref r13) 0 (6 : Int32) l7 fun h14 =>
  q_gR h14 (.ref l0) 11 33 fun r15 =>
  q_ast h14 (.ref r15) 0 (7 : Int32) l8 fun h16 =>
  q_gR h16 (.ref l0) 11 33 fun r17 =>
  q_ast h16 (.ref r17) 0 (8 : Int32) l9 fun h18 =>
  q_run qm_X11_fliesOf call 72 [.ref l0, .int l1, .int l2, .int l3, .int l4, .int l5, .int l6, .int l7, .int l8, .int l9] [] h18 := by
  refine (q_cut_eq _ _ [0, 72] 200 _ _ _ _).trans ?_
  rfl
set_option maxRecDepth 20000 in
theorem k_X11_fliesOf_72 (call : Nat → List Value → qH → qR) (l0 : Nat) (l1 : Value) (l2 : Value) (l3 : Value) (l4 : Value) (l5 : Value) (l6 : Value) (l7 : Value) (l8 : Value) (l9 : Value) (h : qH) : q_run qm_X11_fliesOf call 72 [.ref l0, l1, l2, l3, l4, l5, l6, l7, l8, l9] [] h =
  q_rcv h (.ref l0) 11 (q_rI (call 200 [.ref l0] h) q_t0 fun x2 h1 =>
  some (.inl (some (.int x2)), h1)) := by
  refine (q_cut_eq _ _ [0, 72] 200 _ _ _ _).trans ?_
  rfl
set_option maxRecDepth 20000 in
theorem k_X11_fliesBy_0 (call : Nat → List Value → qH → qR) (l0 : Nat) (l1 : Int32) (l2 : Int32) (l3 : Int32) (l4 : Int32) (h : qH) : q_run qm_X11_fliesBy call 0 [.ref l0, .int l1, .int l2, .int l3, .int l4] [] h =
  q_gR h (.ref l0) 11 14 fun r1 =>
  q_ald h (.ref r1) 0 (((3 : Int32) * l1) + (1 : Int32)) fun x2 =>
  q_gI h (.ref l0) 11 25 fun x3 =>
  q_gR h (.ref l0) 11 43 fun r4 =>
  q_ald h (.ref r4) 0 (46 : Int32) fun x5 =>
  q_gR h (.ref l0) 11 43 fun r6 =>
  q_ald h (.ref r6) 0 ((20 : Int32) + l1) fun x7 =>
  q_gR h (.ref l0) 11 43 fun r8 =>
  q_ald h (.ref r8) 0 (45 : Int32) fun x9 =>
  q_gR h (.ref l0) 11 43 fun r10 =>
  q_gR h (.ref l0) 11 14 fun r11 =>
  q_ald h (.ref r11) 0 ((3 : Int32) * l1) fun x12 =>
  q_ald h (.ref r10) 0 ((40 : Int32) + x12) fun x13 =>
  q_rcv h (.ref l0) 11 (q_rI (call 211 [.ref l0, .int l2, .int x2, .int x3, .int x5, .int l3, .int x7, .int l4, .int x9, .int x13] h) q_t0 fun x15 h14 =>
  some (.inl (some (.int x15)), h14)) := by
  refine (q_cut_eq _ _ [0] 200 _ _ _ _).trans ?_
  rfl
set_option maxRecDepth 20000 in
theorem k_X11_fliesAsItLies_0 (call : Nat → List Value → qH → qR) (l0 : Nat) (l1 : Int32) (l2 : Int32) (h : qH) : q_run qm_X11_fliesAsItLies call 0 [.ref l0, .int l1, .int l2] [] h =
  q_gR h (.ref l0) 11 43 fun r1 =>
  q_ald h (.ref r1) 0 ((0 : Int32) + l1) fun x2 =>
  if q_cmp .ge x2 (0 : Int32) = true then
    q_gR h (.ref l0) 11 43 fun r3 =>
    q_ald h (.ref r3) 0 ((10 : Int32) + l1) fun x4 =>
    q_gR h (.ref l0) 11 43 fun r5 =>
    q_ald h (.ref r5) 0 ((0 : Int32) + l1) fun x6 =>
    q_rcv h (.ref l0) 11 (q_rI (call 212 [.ref l0, .int l1, .int l2, .int x4, .int x6] h) q_t0 fun x8 h7 =>
    q_run qm_X11_fliesAsItLies call 38 [.ref l0, .int l1, .int l2] [.int x8] h7)
  else
    q_run qm_X11_fliesAsItLies call 38 [.ref l0, .int l1, .int l2] [.int (0 : Int32)] h := by
  refine (q_cut_eq _ _ [0, 38] 200 _ _ _ _).trans ?_
  rfl
set_option maxRecDepth 20000 in
theorem k_X11_fliesAsItLies_38 (call : Nat → List Value → qH → qR) (l0 : Value) (l1 : Value) (l2 : Value) (s0 : Int32) (h : qH) : q_run qm_X11_fliesAsItLies call 38 [l0, l1, l2] [.int s0] h =
  some (.inl (some (.int s0)), h) := by
  refine (q_cut_eq _ _ [0, 38] 200 _ _ _ _).trans ?_
  rfl
set_option maxRecDepth 20000 in
theorem k_X11_comesTo_0 (call : Nat → List Value → qH → qR) (l0 : Nat) (l1 : Int32) (l2 : Int32) (l3 : Int32) (h : qH) : q_run qm_X11_comesTo call 0 [.ref l0, .int l1, .int l2, .int l3, q_junk] [] h =
  q_gR h (.ref l0) 11 43 fun r1 =>
  q_ald h (.ref r1) 0 ((0 : Int32) + l1) fun x2 =>
  if q_cmp .ne l3 (0 : Int32) = true then
    q_rcv h (.ref l0) 11 (q_rI (call 213 [.ref l0, .int l1, .int l2] h) q_t0 fun x4 h3 =>
    q_run qm_X11_comesTo call 28 [.ref l0, .int l1, .int l2, .int l3, q_junk] [.int (-x4), .int x2] h3)
  else
    q_rcv h (.ref l0) 11 (q_rI (call 213 [.ref l0, .int l1, .int l2] h) q_t0 fun x6 h5 =>
    q_run qm_X11_comesTo call 28 [.ref l0, .int l1, .int l2, .int l3, q_junk] [.int x6, .int x2] h5) := by
  refine (q_cut_eq _ _ [0, 28, 45, 52] 200 _ _ _ _).trans ?_
  rfl
set_option maxRecDepth 20000 in
theorem k_X11_comesTo_28 (call : Nat → List Value → qH → qR) (l0 : Nat) (l1 : Value) (l2 : Value) (l3 : Value) (l4 : Value) (s0 : Int32) (s1 : Int32) (h : qH) : q_run qm_X11_comesTo call 28 [.ref l0, l1, l2, l3, l4] [.int s1, .int s0] h =
  if q_cmp .lt (s0 + s1) (0 : Int32) = true then
    q_run qm_X11_comesTo call 45 [.ref l0, l1, l2, l3, .int (s0 + s1)] [] h
  else
    q_gI h (.ref l0) 11 24 fun x1 =>
    if q_cmp .lt (s0 + s1) x1 = true then
      q_run qm_X11_comesTo call 52 [.ref l0, l1, l2, l3, .int (s0 + s1)] [.int (s0 + s1)] h
    else
      q_run qm_X11_comesTo call 45 [.ref l0, l1, l2, l3, .int (s0 + s1)] [] h := by
  refine (q_cut_eq _ _ [0, 28, 45, 52] 200 _ _ _ _).trans ?_
  rfl
set_option maxRecDepth 20000 in
theorem k_X11_comesTo_45 (call : Nat → List Value → qH → qR) (l0 : Value) (l1 : Value) (l2 : Value) (l3 : Value) (l4 : Value) (h : qH) : q_run qm_X11_comesTo call 45 [l0, l1, l2, l3, l4] [] h =
  q_run qm_X11_comesTo call 52 [l0, l1, l2, l3, l4] [.int (-2 : Int32)] h := by
  refine (q_cut_eq _ _ [0, 28, 45, 52] 200 _ _ _ _).trans ?_
  rfl
set_option maxRecDepth 20000 in
theorem k_X11_comesTo_52 (call : Nat → List Value → qH → qR) (l0 : Value) (l1 : Value) (l2 : Value) (l3 : Value) (l4 : Value) (s0 : Int32) (h : qH) : q_run qm_X11_comesTo call 52 [l0, l1, l2, l3, l4] [.int s0] h =
  some (.inl (some (.int s0)), h) := by
  refine (q_cut_eq _ _ [0, 28, 45, 52] 200 _ _ _ _).trans ?_
  rfl
set_option maxRecDepth 20000 in
theorem k_X11_lands_0 (call : Nat → List Value → qH → qR) (l0 : Nat) (l1 : Int32) (l2 : Int32) (h : qH) : q_run qm_X11_lands call 0 [.ref l0, .int l1, .int l2, q_junk] [] h =
  q_run qm_X11_lands call 2 [.ref l0, .int l1, .int l2, .int (0 : Int32)] [] h := by
  refine (q_cut_eq _ _ [0, 2, 63, 84, 114, 123, 142, 161] 200 _ _ _ _).trans ?_
  rfl
set_option maxRecDepth 20000 in
theorem k_X11_lands_2 (call : Nat → List Value → qH → qR) (l0 : Nat) (l1 : Int32) (l2 : Int32) (l3 : Int32) (h : qH) : q_run qm_X11_lands call 2 [.ref l0, .int l1, .int l2, .int l3] [] h =
  q_gI h (.ref l0) 11 22 fun x1 =>
  if q_cmp .ge l3 x1 = true then
    if q_cmp .ne l2 (-2 : Int32) = true then
      q_rcv h (.ref l0) 11 (q_rI (call 210 [.ref l0, .int l2] h) q_t0 fun x3 h2 =>
      q_run qm_X11_lands call 84 [.ref l0, .int l1, .int l2, .int l3] [.int x3] h2)
    else
      q_run qm_X11_lands call 84 [.ref l0, .int l1, .int l2, .int l3] [.int (-1 : Int32)] h
  else
    q_gR h (.ref l0) 11 43 fun r4 =>
    q_ald h (.ref r4) 0 ((0 : Int32) + l3) fun x5 =>
    q_gR h (.ref l0) 11 43 fun r6 =>
    q_ald h (.ref r6) 0 ((0 : Int32) + l1) fun x7 =>
    if q_cmp .ne x5 x7 = true then
      q_run qm_X11_lands call 63 [.ref l0, .int l1, .int l2, .int l3] [] h
    else
      q_gR h (.ref l0) 11 43 fun r8 =>
      q_ald h (.ref r8) 0 ((10 : Int32) + l3) fun x9 =>
      q_gR h (.ref l0) 11 43 fun r10 =>
      q_ald h (.ref r10) 0 ((10 : Int32) + l1) fun x11 =>
      if q_cmp .le x9 x11 = true then
        q_run qm_X11_lands call 63 [.ref l0, .int l1, .int l2, .int l3] [] h
      else
        q_gR h (.ref l0) 11 43 fun r12 =>
        q_ald h (.ref r12) 0 ((10 : Int32) + l3) fun x13 =>
        q_ast h (.ref r12) 0 ((10 : Int32) + l3) (x13 - (1 : Int32)) fun h14 =>
        q_run qm_X11_lands call 63 [.ref l0, .int l1, .int l2, .int l3] [] h14 := by
  refine (q_cut_eq _ _ [0, 2, 63, 84, 114, 123, 142, 161] 200 _ _ _ _).trans ?_
  rfl
set_option maxRecDepth 20000 in
theorem k_X11_lands_63 (call : Nat → List Value → qH → qR) (l0 : Nat) (l1 : Int32) (l2 : Int32) (l3 : Int32) (h : qH) : q_run qm_X11_lands call 63 [.ref l0, .int l1, .int l2, .int l3] [] h =
  q_run qm_X11_lands call 2 [.ref l0, .int l1, .int l2, .int (l3 + (1 : Int32))] [] h := by
  refine (q_cut_eq _ _ [0, 2, 63, 84, 114, 123, 142, 161] 200 _ _ _ _).trans ?_
  rfl
set_option maxRecDepth 20000 in
theorem k_X11_lands_84 (call : Nat → List Value → qH → qR) (l0 : Nat) (l1 : Int32) (l2 : Int32) (l3 : Value) (s0 : Int32) (h : qH) : q_run qm_X11_lands call 84 [.ref l0, .int l1, .int l2, l3] [.int s0] h =
  q_gR h (.ref l0) 11 43 fun r1 =>
  q_ast h (.ref r1) 0 ((0 : Int32) + l1) (-2 : Int32) fun h2 =>
  q_gR h2 (.ref l0) 11 43 fun r3 =>
  if q_cmp .eq l2 (-2 : Int32) = true then
    q_run qm_X11_lands call 114 [.ref l0, .int l1, .int l2, .int s0] [.int ((10 : Int32) + l1), .ref r3] h2
  else
    if q_cmp .eq s0 (-1 : Int32) = true then
      q_rcv h2 (.ref l0) 11 (q_rI (call 206 [.ref l0, .int l2] h2) q_t0 fun x5 h4 =>
      q_run qm_X11_lands call 123 [.ref l0, .int l1, .int l2, .int s0] [.int x5, .int ((10 : Int32) + l1), .ref r3] h4)
    else
      q_run qm_X11_lands call 114 [.ref l0, .int l1, .int l2, .int s0] [.int ((10 : Int32) + l1), .ref r3] h2 := by
  refine (q_cut_eq _ _ [0, 2, 63, 84, 114, 123, 142, 161] 200 _ _ _ _).trans ?_
  rfl
set_option maxRecDepth 20000 in
theorem k_X11_lands_114 (call : Nat → List Value → qH → qR) (l0 : Nat) (l1 : Int32) (l2 : Int32) (l3 : Int32) (s0 : Nat) (s1 : Int32) (h : qH) : q_run qm_X11_lands call 114 [.ref l0, .int l1, .int l2, .int l3] [.int s1, .ref s0] h =
  q_run qm_X11_lands call 123 [.ref l0, .int l1, .int l2, .int l3] [.int (0 : Int32), .int s1, .ref s0] h := by
  refine (q_cut_eq _ _ [0, 2, 63, 84, 114, 123, 142, 161] 200 _ _ _ _).trans ?_
  rfl
set_option maxRecDepth 20000 in
theorem k_X11_lands_123 (call : Nat → List Value → qH → qR) (l0 : Nat) (l1 : Int32) (l2 : Int32) (l3 : Int32) (s0 : Nat) (s1 : Int32) (s2 : Int32) (h : qH) : q_run qm_X11_lands call 123 [.ref l0, .int l1, .int l2, .int l3] [.int s2, .int s1, .ref s0] h =
  q_ast h (.ref s0) 0 s1 s2 fun h1 =>
  q_gR h1 (.ref l0) 11 43 fun r2 =>
  if q_cmp .eq l3 (-1 : Int32) = true then
    q_run qm_X11_lands call 142 [.ref l0, .int l1, .int l2, .int l3] [.int l2, .int ((0 : Int32) + l1), .ref r2] h1
  else
    q_run qm_X11_lands call 142 [.ref l0, .int l1, .int l2, .int l3] [.int (-3 : Int32), .int ((0 : Int32) + l1), .ref r2] h1 := by
  refine (q_cut_eq _ _ [0, 2, 63, 84, 114, 123, 142, 161] 200 _ _ _ _).trans ?_
  rfl
set_option maxRecDepth 20000 in
theorem k_X11_lands_142 (call : Nat → List Value → qH → qR) (l0 : Nat) (l1 : Int32) (l2 : Value) (l3 : Int32) (s0 : Nat) (s1 : Int32) (s2 : Int32) (h : qH) : q_run qm_X11_lands call 142 [.ref l0, .int l1, l2, .int l3] [.int s2, .int s1, .ref s0] h =
  q_ast h (.ref s0) 0 s1 s2 fun h1 =>
  q_gR h1 (.ref l0) 11 43 fun r2 =>
  if q_cmp .ne l3 (-1 : Int32) = true then
    q_run qm_X11_lands call 161 [.ref l0, .int l1, l2, .int l3] [.int l3, .int ((30 : Int32) + l1), .ref r2] h1
  else
    q_run qm_X11_lands call 161 [.ref l0, .int l1, l2, .int l3] [.int (0 : Int32), .int ((30 : Int32) + l1), .ref r2] h1 := by
  refine (q_cut_eq _ _ [0, 2, 63, 84, 114, 123, 142, 161] 200 _ _ _ _).trans ?_
  rfl
set_option maxRecDepth 20000 in
theorem k_X11_lands_161 (call : Nat → List Value → qH → qR) (l0 : Value) (l1 : Value) (l2 : Value) (l3 : Int32) (s0 : Nat) (s1 : Int32) (s2 : Int32) (h : qH) : q_run qm_X11_lands call 161 [l0, l1, l2, .int l3] [.int s2, .int s1, .ref s0] h =
  q_ast h (.ref s0) 0 s1 s2 fun h1 =>
  some (.inl (some (.int l3)), h1) := by
  refine (q_cut_eq _ _ [0, 2, 63, 84, 114, 123, 142, 161] 200 _ _ _ _).trans ?_
  rfl
set_option maxRecDepth 20000 in
theorem k_X11_earns_0 (call : Nat → List Value → qH → qR) (l0 : Nat) (l1 : Int32) (l2 : Int32) (h : qH) : q_run qm_X11_earns call 0 [.ref l0, .int l1, .int l2] [] h =
  q_gR h (.ref l0) 11 43 fun r1 =>
  q_gR h (.ref l0) 11 43 fun r2 =>
  q_ald h (.ref r2) 0 ((40 : Int32) + l1) fun x3 =>
  if q_cmp .le (x3 + l2) (9999 : Int32) = true then
    q_gR h (.ref l0) 11 43 fun r4 =>
    q_ald h (.ref r4) 0 ((40 : Int32) + l1) fun x5 =>
    q_run qm_X11_earns call 42 [.ref l0, .int l1, .int l2] [.int (x5 + l2), .int ((40 : Int32) + l1), .ref r1] h
  else
    q_run qm_X11_earns call 42 [.ref l0, .int l1, .int l2] [.int (9999 : Int32), .int ((40 : Int32) + l1), .ref r1] h := by
  refine (q_cut_eq _ _ [0, 42] 200 _ _ _ _).trans ?_
  rfl
set_option maxRecDepth 20000 in
theorem k_X11_earns_42 (call : Nat → List Value → qH → qR) (l0 : Value) (l1 : Value) (l2 : Value) (s0 : Nat) (s1 : Int32) (s2 : Int32) (h : qH) : q_run qm_X11_earns call 42 [l0, l1, l2] [.int s2, .int s1, .ref s0] h =
  q_ast h (.ref s0) 0 s1 s2 fun h1 =>
  some (.inl none, h1) := by
  refine (q_cut_eq _ _ [0, 42] 200 _ _ _ _).trans ?_
  rfl
set_option maxRecDepth 20000 in
theorem k_X11_flights_0 (call : Nat → List Value → qH → qR) (l0 : Nat) (l1 : Int32) (l2 : Int32) (l3 : Int32) (h : qH) : q_run qm_X11_flights call 0 [.ref l0, .int l1, .int l2, .int l3, q_junk] [] h =
  q_rcv h (.ref l0) 11 (q_rI (call 214 [.ref l0, .int l1, .int l2, .int l3] h) q_t0 fun x2 h1 =>
  q_gR h1 (.ref l0) 11 43 fun r3 =>
  q_ald h1 (.ref r3) 0 ((20 : Int32) + l1) fun x4 =>
  q_ast h1 (.ref r3) 0 ((20 : Int32) + l1) (x4 + (1 : Int32)) fun h5 =>
  q_gR h5 (.ref l0) 11 43 fun r6 =>
  q_ald h5 (.ref r6) 0 ((0 : Int32) + l1) fun x7 =>
  if q_cmp .ne x2 x7 = true then
    q_rcv h5 (.ref l0) 11 (q_rI (call 215 [.ref l0, .int l1, .int x2] h5) q_t0 fun x9 h8 =>
    q_run qm_X11_flights call 46 [.ref l0, .int l1, .int l2, .int l3, .int x2] [.int x9] h8)
  else
    q_run qm_X11_flights call 46 [.ref l0, .int l1, .int l2, .int l3, .int x2] [.int (-1 : Int32)] h5) := by
  refine (q_cut_eq _ _ [0, 46] 200 _ _ _ _).trans ?_
  rfl
set_option maxRecDepth 20000 in
theorem k_X11_flights_46 (call : Nat → List Value → qH → qR) (l0 : Value) (l1 : Value) (l2 : Value) (l3 : Value) (l4 : Value) (s0 : Int32) (h : qH) : q_run qm_X11_flights call 46 [l0, l1, l2, l3, l4] [.int s0] h =
  some (.inl (some (.int s0)), h) := by
  refine (q_cut_eq _ _ [0, 46] 200 _ _ _ _).trans ?_
  rfl
set_option maxRecDepth 20000 in
theorem k_X11_flicks_0 (call : Nat → List Value → qH → qR) (l0 : Nat) (l1 : Int32) (l2 : Int32) (l3 : Int32) (h : qH) : q_run qm_X11_flicks call 0 [.ref l0, .int l1, .int l2, .int l3, q_junk, q_junk] [] h =
  q_gR h (.ref l0) 11 14 fun r1 =>
  q_ald h (.ref r1) 0 ((3 : Int32) * l1) fun x2 =>
  q_rcv h (.ref l0) 11 (q_rI (call 208 [.ref l0, .int l1] h) q_t0 fun x4 h3 =>
  if q_cmp .eq x4 (0 : Int32) = true then
    q_run qm_X11_flicks call 31 [.ref l0, .int l1, .int l2, .int l3, .int x2, q_junk] [] h3
  else
    q_gR h3 (.ref l0) 11 43 fun r5 =>
    q_ald h3 (.ref r5) 0 ((40 : Int32) + x2) fun x6 =>
    if q_cmp .ne x6 (0 : Int32) = true then
      q_rcv h3 (.ref l0) 11 (q_rI (call 217 [.ref l0, .int l1, .int l2, .int l3] h3) q_t0 fun x8 h7 =>
      q_gR h7 (.ref l0) 11 43 fun r9 =>
      q_ald h7 (.ref r9) 0 ((40 : Int32) + x2) fun x10 =>
      q_ast h7 (.ref r9) 0 ((40 : Int32) + x2) (x10 - (1 : Int32)) fun h11 =>
      if q_cmp .eq x8 (-1 : Int32) = true then
        q_run qm_X11_flicks call 79 [.ref l0, .int l1, .int l2, .int l3, .int x2, .int x8] [] h11
      else
        q_gR h11 (.ref l0) 11 15 fun r12 =>
        q_ald h11 (.ref r12) 0 (((2 : Int32) * x8) + (1 : Int32)) fun x13 =>
        q_rcv h11 (.ref l0) 11 (q_rV (call 216 [.ref l0, .int x2, .int x13] h11) q_t0 fun h14 =>
        q_run qm_X11_flicks call 79 [.ref l0, .int l1, .int l2, .int l3, .int x2, .int x8] [] h14))
    else
      q_run qm_X11_flicks call 31 [.ref l0, .int l1, .int l2, .int l3, .int x2, q_junk] [] h3) := by
  refine (q_cut_eq _ _ [0, 31, 79] 200 _ _ _ _).trans ?_
  rfl
set_option maxRecDepth 20000 in
theorem k_X11_flicks_31 (call : Nat → List Value → qH → qR) (l0 : Value) (l1 : Value) (l2 : Value) (l3 : Value) (l4 : Value) (l5 : Value) (h : qH) : q_run qm_X11_flicks call 31 [l0, l1, l2, l3, l4, l5] [] h =
  q_boo true (0 : Int32) fun z => some (.inl (some (.int z)), h) := by
  refine (q_cut_eq _ _ [0, 31, 79] 200 _ _ _ _).trans ?_
  rfl
set_option maxRecDepth 20000 in
theorem k_X11_flicks_79 (call : Nat → List Value → qH → qR) (l0 : Value) (l1 : Value) (l2 : Value) (l3 : Value) (l4 : Value) (l5 : Value) (h : qH) : q_run qm_X11_flicks call 79 [l0, l1, l2, l3, l4, l5] [] h =
  q_boo true (1 : Int32) fun z => some (.inl (some (.int z)), h) := by
  refine (q_cut_eq _ _ [0, 31, 79] 200 _ _ _ _).trans ?_
  rfl
set_option maxRecDepth 20000 in
theorem k_X11_frees_0 (call : Nat → List Value → qH → qR) (l0 : Nat) (h : qH) : q_run qm_X11_frees call 0 [.ref l0, q_junk, q_junk] [] h =
  q_run qm_X11_frees call 4 [.ref l0, .int (0 : Int32), .int (0 : Int32)] [] h := by
  refine (q_cut_eq _ _ [0, 4, 36, 41] 200 _ _ _ _).trans ?_
  rfl
set_option maxRecDepth 20000 in
theorem k_X11_frees_4 (call : Nat → List Value → qH → qR) (l0 : Nat) (l1 : Int32) (l2 : Int32) (h : qH) : q_run qm_X11_frees call 4 [.ref l0, .int l1, .int l2] [] h =
  q_gI h (.ref l0) 11 22 fun x1 =>
  if q_cmp .ge l2 x1 = true then
    q_boo true l1 fun z => some (.inl (some (.int z)), h)
  else
    q_gR h (.ref l0) 11 45 fun r2 =>
    q_rcv h (.ref l0) 11 (q_rI (call 208 [.ref l0, .int l2] h) q_t0 fun x4 h3 =>
    q_bst h3 (.ref r2) l2 x4 fun h5 =>
    if q_cmp .ne l1 (0 : Int32) = true then
      q_run qm_X11_frees call 36 [.ref l0, .int l1, .int l2] [] h5
    else
      q_gR h5 (.ref l0) 11 45 fun r6 =>
      q_bld h5 (.ref r6) l2 fun x7 =>
      if q_cmp .eq x7 (0 : Int32) = true then
        q_run qm_X11_frees call 41 [.ref l0, .int l1, .int l2] [.int (0 : Int32)] h5
      else
        q_run qm_X11_frees call 36 [.ref l0, .int l1, .int l2] [] h5) := by
  refine (q_cut_eq _ _ [0, 4, 36, 41] 200 _ _ _ _).trans ?_
  rfl
set_option maxRecDepth 20000 in
theorem k_X11_frees_36 (call : Nat → List Value → qH → qR) (l0 : Nat) (l1 : Value) (l2 : Int32) (h : qH) : q_run qm_X11_frees call 36 [.ref l0, l1, .int l2] [] h =
  q_run qm_X11_frees call 41 [.ref l0, l1, .int l2] [.int (1 : Int32)] h := by
  refine (q_cut_eq _ _ [0, 4, 36, 41] 200 _ _ _ _).trans ?_
  rfl
set_option maxRecDepth 20000 in
theorem k_X11_frees_41 (call : Nat → List Value → qH → qR) (l0 : Nat) (l1 : Value) (l2 : Int32) (s0 : Int32) (h : qH) : q_run qm_X11_frees call 41 [.ref l0, l1, .int l2] [.int s0] h =
  q_run qm_X11_frees call 4 [.ref l0, .int s0, .int (l2 + (1 : Int32))] [] h := by
  refine (q_cut_eq _ _ [0, 4, 36, 41] 200 _ _ _ _).trans ?_
  rfl
set_option maxRecDepth 20000 in
theorem k_X11_shakes_0 (call : Nat → List Value → qH → qR) (l0 : Nat) (h : qH) : q_run qm_X11_shakes call 0 [.ref l0, q_junk] [] h =
  q_rcv h (.ref l0) 11 (q_rI (call 219 [.ref l0] h) q_t0 fun x2 h1 =>
  if q_cmp .ne x2 (0 : Int32) = true then
    q_run qm_X11_shakes call 11 [.ref l0, .int (0 : Int32)] [] h1
  else
    q_boo true (0 : Int32) fun z => some (.inl (some (.int z)), h1)) := by
  refine (q_cut_eq _ _ [0, 11, 62, 66] 200 _ _ _ _).trans ?_
  rfl
set_option maxRecDepth 20000 in
theorem k_X11_shakes_11 (call : Nat → List Value → qH → qR) (l0 : Nat) (l1 : Int32) (h : qH) : q_run qm_X11_shakes call 11 [.ref l0, .int l1] [] h =
  q_gI h (.ref l0) 11 22 fun x1 =>
  if q_cmp .ge l1 x1 = true then
    q_boo true (1 : Int32) fun z => some (.inl (some (.int z)), h)
  else
    q_gR h (.ref l0) 11 45 fun r2 =>
    q_bld h (.ref r2) l1 fun x3 =>
    if q_cmp .eq x3 (0 : Int32) = true then
      q_run qm_X11_shakes call 66 [.ref l0, .int l1] [] h
    else
      q_gR h (.ref l0) 11 43 fun r4 =>
      q_ald h (.ref r4) 0 ((0 : Int32) + l1) fun x5 =>
      q_gI h (.ref l0) 11 24 fun x6 =>
      if q_cmp .lt (x5 + (1 : Int32)) x6 = true then
        q_gR h (.ref l0) 11 43 fun r7 =>
        q_ald h (.ref r7) 0 ((0 : Int32) + l1) fun x8 =>
        q_run qm_X11_shakes call 62 [.ref l0, .int l1] [.int (x8 + (1 : Int32)), .int l1, .ref l0] h
      else
        q_run qm_X11_shakes call 62 [.ref l0, .int l1] [.int (-2 : Int32), .int l1, .ref l0] h := by
  refine (q_cut_eq _ _ [0, 11, 62, 66] 200 _ _ _ _).trans ?_
  rfl
set_option maxRecDepth 20000 in
theorem k_X11_shakes_62 (call : Nat → List Value → qH → qR) (l0 : Nat) (l1 : Int32) (s0 : Nat) (s1 : Int32) (s2 : Int32) (h : qH) : q_run qm_X11_shakes call 62 [.ref l0, .int l1] [.int s2, .int s1, .ref s0] h =
  q_rcv h (.ref s0) 11 (q_rI (call 215 [.ref s0, .int s1, .int s2] h) q_t0 fun x2 h1 =>
  q_run qm_X11_shakes call 66 [.ref l0, .int l1] [] h1) := by
  refine (q_cut_eq _ _ [0, 11, 62, 66] 200 _ _ _ _).trans ?_
  rfl
set_option maxRecDepth 20000 in
theorem k_X11_shakes_66 (call : Nat → List Value → qH → qR) (l0 : Nat) (l1 : Int32) (h : qH) : q_run qm_X11_shakes call 66 [.ref l0, .int l1] [] h =
  q_run qm_X11_shakes call 11 [.ref l0, .int (l1 + (1 : Int32))] [] h := by
  refine (q_cut_eq _ _ [0, 11, 62, 66] 200 _ _ _ _).trans ?_
  rfl
set_option maxRecDepth 20000 in
theorem k_X11_passes_0 (call : Nat → List Value → qH → qR) (l0 : Nat) (h : qH) : q_run qm_X11_passes call 0 [.ref l0, q_junk] [] h =
  q_run qm_X11_passes call 2 [.ref l0, .int (0 : Int32)] [] h := by
  refine (q_cut_eq _ _ [0, 2, 109] 200 _ _ _ _).trans ?_
  rfl
set_option maxRecDepth 20000 in
theorem k_X11_passes_2 (call : Nat → List Value → qH → qR) (l0 : Nat) (l1 : Int32) (h : qH) : q_run qm_X11_passes call 2 [.ref l0, .int l1] [] h =
  q_gI h (.ref l0) 11 22 fun x1 =>
  if q_cmp .ge l1 x1 = true then
    q_gR h (.ref l0) 11 43 fun r2 =>
    q_ald h (.ref r2) 0 (45 : Int32) fun x3 =>
    q_ast h (.ref r2) 0 (45 : Int32) (x3 + (1 : Int32)) fun h4 =>
    some (.inl none, h4)
  else
    q_gR h (.ref l0) 11 43 fun r5 =>
    q_ald h (.ref r5) 0 ((0 : Int32) + l1) fun x6 =>
    if q_cmp .lt x6 (0 : Int32) = true then
      q_run qm_X11_passes call 109 [.ref l0, .int l1] [] h
    else
      q_rcv h (.ref l0) 11 (q_rI (call 207 [.ref l0, .int l1] h) q_t0 fun x8 h7 =>
      if q_cmp .eq x8 (0 : Int32) = true then
        q_run qm_X11_passes call 109 [.ref l0, .int l1] [] h7
      else
        q_gR h7 (.ref l0) 11 43 fun r9 =>
        q_gR h7 (.ref l0) 11 14 fun r10 =>
        q_ald h7 (.ref r10) 0 ((3 : Int32) * l1) fun x11 =>
        q_ald h7 (.ref r9) 0 ((40 : Int32) + x11) fun x12 =>
        if q_cmp .ne x12 (0 : Int32) = true then
          q_gR h7 (.ref l0) 11 43 fun r13 =>
          q_gR h7 (.ref l0) 11 14 fun r14 =>
          q_ald h7 (.ref r14) 0 ((3 : Int32) * l1) fun x15 =>
          q_ald h7 (.ref r13) 0 ((40 : Int32) + x15) fun x16 =>
          q_ast h7 (.ref r13) 0 ((40 : Int32) + x15) (x16 - (1 : Int32)) fun h17 =>
          q_gR h17 (.ref l0) 11 14 fun r18 =>
          q_gR h17 (.ref l0) 11 43 fun r19 =>
          q_ald h17 (.ref r19) 0 ((0 : Int32) + l1) fun x20 =>
          q_gR h17 (.ref l0) 11 43 fun r21 =>
          q_ald h17 (.ref r21) 0 ((0 : Int32) + l1) fun x22 =>
          q_rcv h17 (.ref l0) 11 (q_rI (call 206 [.ref l0, .int x22] h17) q_t0 fun x24 h23 =>
          q_rcv h23 (.ref l0) 11 (q_rI (call 209 [.ref l0, .int x20, .int (x24 - (1 : Int32))] h23) q_t0 fun x26 h25 =>
          q_ald h25 (.ref r18) 0 ((3 : Int32) * x26) fun x27 =>
          q_rcv h25 (.ref l0) 11 (q_rV (call 216 [.ref l0, .int x27, .int (1 : Int32)] h25) q_t0 fun h28 =>
          q_run qm_X11_passes call 109 [.ref l0, .int l1] [] h28)))
        else
          q_run qm_X11_passes call 109 [.ref l0, .int l1] [] h7) := by
  refine (q_cut_eq _ _ [0, 2, 109] 200 _ _ _ _).trans ?_
  rfl
set_option maxRecDepth 20000 in
theorem k_X11_passes_109 (call : Nat → List Value → qH → qR) (l0 : Nat) (l1 : Int32) (h : qH) : q_run qm_X11_passes call 109 [.ref l0, .int l1] [] h =
  q_run qm_X11_passes call 2 [.ref l0, .int (l1 + (1 : Int32))] [] h := by
  refine (q_cut_eq _ _ [0, 2, 109] 200 _ _ _ _).trans ?_
  rfl
set_option maxRecDepth 20000 in
theorem k_X11_goes_0 (call : Nat → List Value → qH → qR) (l0 : Nat) (l1 : Int32) (l2 : Int32) (l3 : Int32) (h : qH) : q_run qm_X11_goes call 0 [.ref l0, .int l1, .int l2, .int l3] [] h =
  if q_cmp .eq l1 (0 : Int32) = true then
    q_run qm_X11_goes call 9 [.ref l0, .int l1, .int l2, .int l3] [] h
  else
    if q_cmp .ne l1 (1 : Int32) = true then
      if q_cmp .ne l1 (3 : Int32) = true then
        if q_cmp .ne l1 (2 : Int32) = true then
          q_gR h (.ref l0) 11 43 fun r1 =>
          q_ald h (.ref r1) 0 (45 : Int32) fun x2 =>
          if q_cmp .ne x2 (500 : Int32) = true then
            q_rcv h (.ref l0) 11 (q_rV (call 221 [.ref l0] h) q_t0 fun h3 =>
            q_boo true (1 : Int32) fun z => some (.inl (some (.int z)), h3))
          else
            q_boo true (0 : Int32) fun z => some (.inl (some (.int z)), h)
        else
          q_gR h (.ref l0) 11 43 fun r5 =>
          q_ald h (.ref r5) 0 (46 : Int32) fun x6 =>
          if q_cmp .ne x6 l2 = true then
            q_gR h (.ref l0) 11 43 fun r7 =>
            q_ast h (.ref r7) 0 (46 : Int32) l2 fun h8 =>
            q_boo true (1 : Int32) fun z => some (.inl (some (.int z)), h8)
          else
            q_boo true (0 : Int32) fun z => some (.inl (some (.int z)), h)
      else
        q_rcv h (.ref l0) 11 (q_rI (call 220 [.ref l0] h) q_t0 fun x10 h9 =>
        q_boo true x10 fun z => some (.inl (some (.int z)), h9))
    else
      q_run qm_X11_goes call 9 [.ref l0, .int l1, .int l2, .int l3] [] h := by
  refine (q_cut_eq _ _ [0, 9] 200 _ _ _ _).trans ?_
  rfl
set_option maxRecDepth 20000 in
theorem k_X11_goes_9 (call : Nat → List Value → qH → qR) (l0 : Nat) (l1 : Int32) (l2 : Int32) (l3 : Int32) (h : qH) : q_run qm_X11_goes call 9 [.ref l0, .int l1, .int l2, .int l3] [] h =
  q_rcv h (.ref l0) 11 (q_rI (call 218 [.ref l0, .int l2, .int l3, .int l1] h) q_t0 fun x2 h1 =>
  q_boo true x2 fun z => some (.inl (some (.int z)), h1)) := by
  refine (q_cut_eq _ _ [0, 9] 200 _ _ _ _).trans ?_
  rfl
set_option maxRecDepth 20000 in
theorem k_X11_book_0 (call : Nat → List Value → qH → qR) (l0 : Nat) (l1 : Int32) (h : qH) : q_run qm_X11_book call 0 [.ref l0, .int l1, q_junk, q_junk, q_junk, q_junk] [] h =
  q_pV h (.ref l0) 11 0 (.int (0 : Int32)) fun h1 =>
  if q_cmp .lt l1 (0 : Int32) = true then
    q_run qm_X11_book call 28 [.ref l0, .int l1, q_junk, q_junk, q_junk, q_junk] [.ref l0] h1
  else
    q_gI h1 (.ref l0) 11 2 fun x2 =>
    if q_cmp .gt l1 x2 = true then
      q_run qm_X11_book call 28 [.ref l0, .int l1, q_junk, q_junk, q_junk, q_junk] [.ref l0] h1
    else
      if q_cmp .gt l1 (100 : Int32) = true then
        q_run qm_X11_book call 28 [.ref l0, .int l1, q_junk, q_junk, q_junk, q_junk] [.ref l0] h1
      else
        q_run qm_X11_book call 29 [.ref l0, .int l1, q_junk, q_junk, q_junk, q_junk] [.int (1 : Int32), .ref l0] h1 := by
  refine (q_cut_eq _ _ [0, 28, 29, 46, 67, 121, 163] 200 _ _ _ _).trans ?_
  rfl
set_option maxRecDepth 20000 in
theorem k_X11_book_28 (call : Nat → List Value → qH → qR) (l0 : Nat) (l1 : Int32) (l2 : Value) (l3 : Value) (l4 : Value) (l5 : Value) (s0 : Nat) (h : qH) : q_run qm_X11_book call 28 [.ref l0, .int l1, l2, l3, l4, l5] [.ref s0] h =
  q_run qm_X11_book call 29 [.ref l0, .int l1, l2, l3, l4, l5] [.int (0 : Int32), .ref s0] h := by
  refine (q_cut_eq _ _ [0, 28, 29, 46, 67, 121, 163] 200 _ _ _ _).trans ?_
  rfl
set_option maxRecDepth 20000 in
theorem k_X11_book_29 (call : Nat → List Value → qH → qR) (l0 : Nat) (l1 : Int32) (l2 : Value) (l3 : Value) (l4 : Value) (l5 : Value) (s0 : Nat) (s1 : Int32) (h : qH) : q_run qm_X11_book call 29 [.ref l0, .int l1, l2, l3, l4, l5] [.int s1, .ref s0] h =
  q_rcv h (.ref s0) 11 (q_rI (call 164 [.ref s0, .int s1, .int (1 : Int32), .int (1 : Int32)] h) q_t0 fun x2 h1 =>
  if q_cmp .ne x2 (0 : Int32) = true then
    q_rcv h1 (.ref l0) 11 (q_rV (call 179 [.ref l0, .int l1] h1) q_t0 fun h3 =>
    q_run qm_X11_book call 46 [.ref l0, .int l1, .int (0 : Int32), l3, l4, l5] [] h3)
  else
    some (.inl (some (.int (0 : Int32))), h1)) := by
  refine (q_cut_eq _ _ [0, 28, 29, 46, 67, 121, 163] 200 _ _ _ _).trans ?_
  rfl
set_option maxRecDepth 20000 in
theorem k_X11_book_46 (call : Nat → List Value → qH → qR) (l0 : Nat) (l1 : Value) (l2 : Int32) (l3 : Value) (l4 : Value) (l5 : Value) (h : qH) : q_run qm_X11_book call 46 [.ref l0, l1, .int l2, l3, l4, l5] [] h =
  if q_cmp .ge l2 (9 : Int32) = true then
    q_run qm_X11_book call 67 [.ref l0, l1, .int (0 : Int32), l3, l4, l5] [] h
  else
    q_gR h (.ref l0) 11 46 fun r1 =>
    q_ast h (.ref r1) 0 l2 (-1 : Int32) fun h2 =>
    q_run qm_X11_book call 46 [.ref l0, l1, .int (l2 + (1 : Int32)), l3, l4, l5] [] h2 := by
  refine (q_cut_eq _ _ [0, 28, 29, 46, 67, 121, 163] 200 _ _ _ _).trans ?_
  rfl
set_option maxRecDepth 20000 in
theorem k_X11_book_67 (call : Nat → List Value → qH → qR) (l0 : Nat) (l1 : Value) (l2 : Int32) (l3 : Value) (l4 : Value) (l5 : Value) (h : qH) : q_run qm_X11_book call 67 [.ref l0, l1, .int l2, l3, l4, l5] [] h =
  q_rcv h (.ref l0) 11 (q_rI (call 168 [.ref l0] h) q_t0 fun x2 h1 =>
  if q_cmp .eq x2 (0 : Int32) = true then
    q_run qm_X11_book call 163 [.ref l0, l1, .int l2, l3, l4, l5] [] h1
  else
    q_rcv h1 (.ref l0) 11 (q_rI (call 178 [.ref l0] h1) q_t0 fun x4 h3 =>
    if q_cmp .eq x4 (0 : Int32) = true then
      q_run qm_X11_book call 163 [.ref l0, l1, .int l2, l3, l4, l5] [] h3
    else
      q_gI h3 (.ref l0) 11 4 fun x5 =>
      q_rcv h3 (.ref l0) 11 (q_rI (call 176 [.ref l0, .int (1 : Int32), .int (9 : Int32)] h3) q_t0 fun x7 h6 =>
      q_rcv h6 (.ref l0) 11 (q_rI (call 168 [.ref l0] h6) q_t0 fun x9 h8 =>
      if q_cmp .eq x9 (0 : Int32) = true then
        q_run qm_X11_book call 121 [.ref l0, l1, .int l2, .int x5, .int x7, l5] [] h8
      else
        q_gR h8 (.ref l0) 11 46 fun r10 =>
        q_ald h8 (.ref r10) 0 (x7 - (1 : Int32)) fun x11 =>
        if q_cmp .eq x11 (-1 : Int32) = true then
          q_run qm_X11_book call 121 [.ref l0, l1, .int l2, .int x5, .int x7, l5] [] h8
        else
          q_rcv h8 (.ref l0) 11 (q_rV (call 169 [.ref l0, .int (2 : Int32), .int x5] h8) q_t0 fun h12 =>
          q_run qm_X11_book call 121 [.ref l0, l1, .int l2, .int x5, .int x7, l5] [] h12))))) := by
  refine (q_cut_eq _ _ [0, 28, 29, 46, 67, 121, 163] 200 _ _ _ _).trans ?_
  rfl
set_option maxRecDepth 20000 in
theorem k_X11_book_121 (call : Nat → List Value → qH → qR) (l0 : Nat) (l1 : Value) (l2 : Int32) (l3 : Value) (l4 : Int32) (l5 : Value) (h : qH) : q_run qm_X11_book call 121 [.ref l0, l1, .int l2, l3, .int l4, l5] [] h =
  q_rcv h (.ref l0) 11 (q_rI (call 176 [.ref l0, .int (0 : Int32), .int (60 : Int32)] h) q_t0 fun x2 h1 =>
  q_rcv h1 (.ref l0) 11 (q_rV (call 177 [.ref l0, .int (59 : Int32)] h1) q_t0 fun h3 =>
  q_rcv h3 (.ref l0) 11 (q_rI (call 168 [.ref l0] h3) q_t0 fun x6 h5 =>
  if q_cmp .ne x6 (0 : Int32) = true then
    q_gR h5 (.ref l0) 11 46 fun r7 =>
    q_ast h5 (.ref r7) 0 (l4 - (1 : Int32)) x2 fun h8 =>
    q_run qm_X11_book call 67 [.ref l0, l1, .int (l2 + (1 : Int32)), l3, .int l4, .int x2] [] h8
  else
    q_run qm_X11_book call 163 [.ref l0, l1, .int l2, l3, .int l4, .int x2] [] h5))) := by
  refine (q_cut_eq _ _ [0, 28, 29, 46, 67, 121, 163] 200 _ _ _ _).trans ?_
  rfl
set_option maxRecDepth 20000 in
theorem k_X11_book_163 (call : Nat → List Value → qH → qR) (l0 : Nat) (l1 : Value) (l2 : Int32) (l3 : Value) (l4 : Value) (l5 : Value) (h : qH) : q_run qm_X11_book call 163 [.ref l0, l1, .int l2, l3, l4, l5] [] h =
  q_rcv h (.ref l0) 11 (q_rI (call 180 [.ref l0, .int l2] h) q_t0 fun x2 h1 =>
  q_gI h1 (.ref l0) 11 5 fun x3 =>
  if q_cmp .eq x3 (-1 : Int32) = true then
    q_pV h1 (.ref l0) 11 48 (.int l2) fun h4 =>
    q_gR h4 (.ref l0) 11 46 fun r5 =>
    q_gR h4 (.ref l0) 11 47 fun r6 =>
    q_rcv h4 (.ref l0) 11 (q_rV (call 182 [.ref l0, .ref r5, .ref r6, .int (9 : Int32)] h4) q_t0 fun h7 =>
    some (.inl (some (.int x2)), h7))
  else
    some (.inl (some (.int x2)), h1)) := by
  refine (q_cut_eq _ _ [0, 28, 29, 46, 67, 121, 163] 200 _ _ _ _).trans ?_
  rfl
set_option maxRecDepth 20000 in
theorem k_X11_isTold_0 (call : Nat → List Value → qH → qR) (l0 : Nat) (l1 : Int32) (h : qH) : q_run qm_X11_isTold call 0 [.ref l0, .int l1] [] h =
  q_gI h (.ref l0) 11 48 fun x1 =>
  if q_cmp .le x1 (0 : Int32) = true then
    q_run qm_X11_isTold call 23 [.ref l0, .int l1] [] h
  else
    q_gR h (.ref l0) 11 47 fun r2 =>
    q_ald h (.ref r2) 0 (l1 - (1 : Int32)) fun x3 =>
    if q_cmp .eq x3 (-1 : Int32) = true then
      q_run qm_X11_isTold call 23 [.ref l0, .int l1] [] h
    else
      q_run qm_X11_isTold call 24 [.ref l0, .int l1] [.int (1 : Int32)] h := by
  refine (q_cut_eq _ _ [0, 23, 24] 200 _ _ _ _).trans ?_
  rfl
set_option maxRecDepth 20000 in
theorem k_X11_isTold_23 (call : Nat → List Value → qH → qR) (l0 : Value) (l1 : Value) (h : qH) : q_run qm_X11_isTold call 23 [l0, l1] [] h =
  q_run qm_X11_isTold call 24 [l0, l1] [.int (0 : Int32)] h := by
  refine (q_cut_eq _ _ [0, 23, 24] 200 _ _ _ _).trans ?_
  rfl
set_option maxRecDepth 20000 in
theorem k_X11_isTold_24 (call : Nat → List Value → qH → qR) (l0 : Value) (l1 : Value) (s0 : Int32) (h : qH) : q_run qm_X11_isTold call 24 [l0, l1] [.int s0] h =
  q_boo true s0 fun z => some (.inl (some (.int z)), h) := by
  refine (q_cut_eq _ _ [0, 23, 24] 200 _ _ _ _).trans ?_
  rfl
set_option maxRecDepth 20000 in
theorem k_X11_undo_0 (call : Nat → List Value → qH → qR) (l0 : Nat) (h : qH) : q_run qm_X11_undo call 0 [.ref l0, q_junk] [] h =
  q_pV h (.ref l0) 11 0 (.int (0 : Int32)) fun h1 =>
  q_gI h1 (.ref l0) 11 37 fun x2 =>
  if q_cmp .ne x2 (0 : Int32) = true then
    q_gI h1 (.ref l0) 11 37 fun x3 =>
    q_pV h1 (.ref l0) 11 37 (.int (x3 - (1 : Int32))) fun h4 =>
    q_run qm_X11_undo call 26 [.ref l0, .int (0 : Int32)] [] h4
  else
    some (.inl (some (.int (-1 : Int32))), h1) := by
  refine (q_cut_eq _ _ [0, 26] 200 _ _ _ _).trans ?_
  rfl
set_option maxRecDepth 20000 in
theorem k_X11_undo_26 (call : Nat → List Value → qH → qR) (l0 : Nat) (l1 : Int32) (h : qH) : q_run qm_X11_undo call 26 [.ref l0, .int l1] [] h =
  if q_cmp .ge l1 (47 : Int32) = true then
    q_pV h (.ref l0) 11 38 (.int (0 : Int32)) fun h1 =>
    q_gI h1 (.ref l0) 11 37 fun x2 =>
    some (.inl (some (.int x2)), h1)
  else
    q_gR h (.ref l0) 11 42 fun r3 =>
    q_gR h (.ref l0) 11 44 fun r4 =>
    q_gI h (.ref l0) 11 37 fun x5 =>
    q_ald h (.ref r4) 0 (((47 : Int32) * x5) + l1) fun x6 =>
    q_ast h (.ref r3) 0 l1 x6 fun h7 =>
    q_run qm_X11_undo call 26 [.ref l0, .int (l1 + (1 : Int32))] [] h7 := by
  refine (q_cut_eq _ _ [0, 26] 200 _ _ _ _).trans ?_
  rfl
set_option maxRecDepth 20000 in
theorem k_X11_frozen_0 (call : Nat → List Value → qH → qR) (l0 : Nat) (h : qH) : q_run qm_X11_frozen call 0 [.ref l0, q_junk, q_junk] [] h =
  q_run qm_X11_frozen call 4 [.ref l0, .int (0 : Int32), .int (0 : Int32)] [] h := by
  refine (q_cut_eq _ _ [0, 4, 28] 200 _ _ _ _).trans ?_
  rfl
set_option maxRecDepth 20000 in
theorem k_X11_frozen_4 (call : Nat → List Value → qH → qR) (l0 : Nat) (l1 : Int32) (l2 : Int32) (h : qH) : q_run qm_X11_frozen call 4 [.ref l0, .int l1, .int l2] [] h =
  q_gI h (.ref l0) 11 22 fun x1 =>
  if q_cmp .ge l2 x1 = true then
    some (.inl (some (.int l1)), h)
  else
    q_rcv h (.ref l0) 11 (q_rI (call 207 [.ref l0, .int l2] h) q_t0 fun x3 h2 =>
    if q_cmp .le x3 (0 : Int32) = true then
      q_run qm_X11_frozen call 28 [.ref l0, .int l1, .int l2] [.int (0 : Int32), .int l1] h2
    else
      q_run qm_X11_frozen call 28 [.ref l0, .int l1, .int l2] [.int ((1 : Int32) <<< (l2 &&& 31)), .int l1] h2) := by
  refine (q_cut_eq _ _ [0, 4, 28] 200 _ _ _ _).trans ?_
  rfl
set_option maxRecDepth 20000 in
theorem k_X11_frozen_28 (call : Nat → List Value → qH → qR) (l0 : Nat) (l1 : Value) (l2 : Int32) (s0 : Int32) (s1 : Int32) (h : qH) : q_run qm_X11_frozen call 28 [.ref l0, l1, .int l2] [.int s1, .int s0] h =
  q_run qm_X11_frozen call 4 [.ref l0, .int (s0 ||| s1), .int (l2 + (1 : Int32))] [] h := by
  refine (q_cut_eq _ _ [0, 4, 28] 200 _ _ _ _).trans ?_
  rfl
set_option maxRecDepth 20000 in
theorem k_X11_those_0 (call : Nat → List Value → qH → qR) (l0 : Nat) (l1 : Int32) (h : qH) : q_run qm_X11_those call 0 [.ref l0, .int l1, q_junk, q_junk] [] h =
  q_run qm_X11_those call 4 [.ref l0, .int l1, .int (0 : Int32), .int (0 : Int32)] [] h := by
  refine (q_cut_eq _ _ [0, 4, 32] 200 _ _ _ _).trans ?_
  rfl
set_option maxRecDepth 20000 in
theorem k_X11_those_4 (call : Nat → List Value → qH → qR) (l0 : Nat) (l1 : Int32) (l2 : Int32) (l3 : Int32) (h : qH) : q_run qm_X11_those call 4 [.ref l0, .int l1, .int l2, .int l3] [] h =
  q_gI h (.ref l0) 11 22 fun x1 =>
  if q_cmp .ge l3 x1 = true then
    some (.inl (some (.int l2)), h)
  else
    q_gR h (.ref l0) 11 43 fun r2 =>
    q_ald h (.ref r2) 0 ((0 : Int32) + l3) fun x3 =>
    if q_cmp .ne x3 l1 = true then
      q_run qm_X11_those call 32 [.ref l0, .int l1, .int l2, .int l3] [.int (0 : Int32), .int l2] h
    else
      q_run qm_X11_those call 32 [.ref l0, .int l1, .int l2, .int l3] [.int ((1 : Int32) <<< (l3 &&& 31)), .int l2] h := by
  refine (q_cut_eq _ _ [0, 4, 32] 200 _ _ _ _).trans ?_
  rfl
set_option maxRecDepth 20000 in
theorem k_X11_those_32 (call : Nat → List Value → qH → qR) (l0 : Nat) (l1 : Int32) (l2 : Value) (l3 : Int32) (s0 : Int32) (s1 : Int32) (h : qH) : q_run qm_X11_those call 32 [.ref l0, .int l1, l2, .int l3] [.int s1, .int s0] h =
  q_run qm_X11_those call 4 [.ref l0, .int l1, .int (s0 ||| s1), .int (l3 + (1 : Int32))] [] h := by
  refine (q_cut_eq _ _ [0, 4, 32] 200 _ _ _ _).trans ?_
  rfl
set_option maxRecDepth 20000 in
theorem k_X11_told_0 (call : Nat → List Value → qH → qR) (l0 : Nat) (l1 : Int32) (h : qH) : q_run qm_X11_told call 0 [.ref l0, .int l1] [] h =
  q_pV h (.ref l0) 11 0 (.int (0 : Int32)) fun h1 =>
  q_rI (call 165 [.int l1, .int (0 : Int32), .int (11 : Int32)] h1) q_t0 fun x3 h2 =>
  q_rcv h2 (.ref l0) 11 (q_rI (call 164 [.ref l0, .int x3, .int (1 : Int32), .int (1 : Int32)] h2) q_t0 fun x5 h4 =>
  if q_cmp .ne x5 (0 : Int32) = true then
    q_rcv h4 (.ref l0) 11 (q_rV (call 205 [.ref l0] h4) q_t0 fun h6 =>
    if q_cmp .ge l1 (3 : Int32) = true then
      if q_cmp .ge l1 (6 : Int32) = true then
        if q_cmp .ge l1 (8 : Int32) = true then
          if q_cmp .ne l1 (8 : Int32) = true then
            if q_cmp .ne l1 (9 : Int32) = true then
              if q_cmp .ne l1 (10 : Int32) = true then
                q_gI h6 (.ref l0) 11 25 fun x8 =>
                q_run qm_X11_told call 168 [.ref l0, .int l1] [.int x8] h6
              else
                q_gI h6 (.ref l0) 11 24 fun x9 =>
                q_run qm_X11_told call 168 [.ref l0, .int l1] [.int x9] h6
            else
              q_gI h6 (.ref l0) 11 38 fun x10 =>
              q_run qm_X11_told call 168 [.ref l0, .int l1] [.int x10] h6
          else
            q_gI h6 (.ref l0) 11 48 fun x11 =>
            q_run qm_X11_told call 168 [.ref l0, .int l1] [.int x11] h6
        else
          if q_cmp .ne l1 (6 : Int32) = true then
            q_run qm_X11_told call 121 [.ref l0, .int l1] [.int (-2 : Int32), .ref l0] h6
          else
            q_run qm_X11_told call 121 [.ref l0, .int l1] [.int (-3 : Int32), .ref l0] h6
      else
        if q_cmp .ne l1 (3 : Int32) = true then
          if q_cmp .ne l1 (4 : Int32) = true then
            q_rcv h6 (.ref l0) 11 (q_rI (call 226 [.ref l0] h6) q_t0 fun x13 h12 =>
            q_run qm_X11_told call 100 [.ref l0, .int l1] [.int x13] h12)
          else
            q_gR h6 (.ref l0) 11 43 fun r14 =>
            q_ald h6 (.ref r14) 0 (46 : Int32) fun x15 =>
            q_run qm_X11_told call 100 [.ref l0, .int l1] [.int x15] h6
        else
          q_gR h6 (.ref l0) 11 43 fun r16 =>
          q_ald h6 (.ref r16) 0 (45 : Int32) fun x17 =>
          q_run qm_X11_told call 100 [.ref l0, .int l1] [.int x17] h6
    else
      if q_cmp .ne l1 (0 : Int32) = true then
        if q_cmp .ne l1 (1 : Int32) = true then
          q_gI h6 (.ref l0) 11 23 fun x18 =>
          q_run qm_X11_told call 59 [.ref l0, .int l1] [.int x18] h6
        else
          q_gI h6 (.ref l0) 11 22 fun x19 =>
          q_run qm_X11_told call 59 [.ref l0, .int l1] [.int x19] h6
      else
        q_gI h6 (.ref l0) 11 21 fun x20 =>
        q_run qm_X11_told call 59 [.ref l0, .int l1] [.int x20] h6)
  else
    some (.inl (some (.int (0 : Int32))), h4)) := by
  refine (q_cut_eq _ _ [0, 59, 100, 121, 168] 200 _ _ _ _).trans ?_
  rfl
set_option maxRecDepth 20000 in
theorem k_X11_told_59 (call : Nat → List Value → qH → qR) (l0 : Value) (l1 : Value) (s0 : Int32) (h : qH) : q_run qm_X11_told call 59 [l0, l1] [.int s0] h =
  some (.inl (some (.int s0)), h) := by
  refine (q_cut_eq _ _ [0, 59, 100, 121, 168] 200 _ _ _ _).trans ?_
  rfl
set_option maxRecDepth 20000 in
theorem k_X11_told_100 (call : Nat → List Value → qH → qR) (l0 : Value) (l1 : Value) (s0 : Int32) (h : qH) : q_run qm_X11_told call 100 [l0, l1] [.int s0] h =
  some (.inl (some (.int s0)), h) := by
  refine (q_cut_eq _ _ [0, 59, 100, 121, 168] 200 _ _ _ _).trans ?_
  rfl
set_option maxRecDepth 20000 in
theorem k_X11_told_121 (call : Nat → List Value → qH → qR) (l0 : Value) (l1 : Value) (s0 : Nat) (s1 : Int32) (h : qH) : q_run qm_X11_told call 121 [l0, l1] [.int s1, .ref s0] h =
  q_rcv h (.ref s0) 11 (q_rI (call 227 [.ref s0, .int s1] h) q_t0 fun x2 h1 =>
  some (.inl (some (.int x2)), h1)) := by
  refine (q_cut_eq _ _ [0, 59, 100, 121, 168] 200 _ _ _ _).trans ?_
  rfl
set_option maxRecDepth 20000 in
theorem k_X11_told_168 (call : Nat → List Value → qH → qR) (l0 : Value) (l1 : Value) (s0 : Int32) (h : qH) : q_run qm_X11_told call 168 [l0, l1] [.int s0] h =
  some (.inl (some (.int s0)), h) := by
  refine (q_cut_eq _ _ [0, 59, 100, 121, 168] 200 _ _ _ _).trans ?_
  rfl
set_option maxRecDepth 20000 in
theorem k_X11_isHouse_0 (call : Nat → List Value → qH → qR) (l0 : Nat) (l1 : Int32) (l2 : Int32) (h : qH) : q_run qm_X11_isHouse call 0 [.ref l0, .int l1, .int l2] [] h =
  q_gI h (.ref l0) 11 21 fun x1 =>
  q_rI (call 165 [.int l1, .int (0 : Int32), .int (x1 - (1 : Int32))] h) q_t0 fun x3 h2 =>
  q_rcv h2 (.ref l0) 11 (q_rI (call 164 [.ref l0, .int x3, .int l2, .int (0 : Int32)] h2) q_t0 fun x5 h4 =>
  q_boo true x5 fun z => some (.inl (some (.int z)), h4)) := by
  refine (q_cut_eq _ _ [0] 200 _ _ _ _).trans ?_
  rfl
set_option maxRecDepth 20000 in
theorem k_X11_isWink_0 (call : Nat → List Value → qH → qR) (l0 : Nat) (l1 : Int32) (l2 : Int32) (h : qH) : q_run qm_X11_isWink call 0 [.ref l0, .int l1, .int l2] [] h =
  q_gI h (.ref l0) 11 22 fun x1 =>
  q_rI (call 165 [.int l1, .int (0 : Int32), .int (x1 - (1 : Int32))] h) q_t0 fun x3 h2 =>
  q_rcv h2 (.ref l0) 11 (q_rI (call 164 [.ref l0, .int x3, .int l2, .int (0 : Int32)] h2) q_t0 fun x5 h4 =>
  q_boo true x5 fun z => some (.inl (some (.int z)), h4)) := by
  refine (q_cut_eq _ _ [0] 200 _ _ _ _).trans ?_
  rfl
set_option maxRecDepth 20000 in
theorem k_X11_house_0 (call : Nat → List Value → qH → qR) (l0 : Nat) (l1 : Int32) (l2 : Int32) (h : qH) : q_run qm_X11_house call 0 [.ref l0, .int l1, .int l2, q_junk, q_junk] [] h =
  q_pV h (.ref l0) 11 0 (.int (0 : Int32)) fun h1 =>
  q_rcv h1 (.ref l0) 11 (q_rI (call 229 [.ref l0, .int l1, .int (1 : Int32)] h1) q_t0 fun x3 h2 =>
  if q_cmp .eq x3 (0 : Int32) = true then
    q_run qm_X11_house call 29 [.ref l0, .int l1, .int l2, q_junk, q_junk] [] h2
  else
    q_rI (call 165 [.int l2, .int (0 : Int32), .int (2 : Int32)] h2) q_t0 fun x5 h4 =>
    q_rcv h4 (.ref l0) 11 (q_rI (call 164 [.ref l0, .int x5, .int (2 : Int32), .int (1 : Int32)] h4) q_t0 fun x7 h6 =>
    if q_cmp .ne x7 (0 : Int32) = true then
      q_rcv h6 (.ref l0) 11 (q_rV (call 205 [.ref l0] h6) q_t0 fun h8 =>
      if q_cmp .ne l2 (0 : Int32) = true then
        q_run qm_X11_house call 54 [.ref l0, .int l1, .int l2, .int (0 : Int32), .int (0 : Int32)] [] h8
      else
        q_gR h8 (.ref l0) 11 43 fun r10 =>
        q_ald h8 (.ref r10) 0 ((40 : Int32) + l1) fun x11 =>
        some (.inl (some (.int x11)), h8))
    else
      q_run qm_X11_house call 29 [.ref l0, .int l1, .int l2, q_junk, q_junk] [] h6)) := by
  refine (q_cut_eq _ _ [0, 29, 54, 91, 98, 99] 200 _ _ _ _).trans ?_
  rfl
set_option maxRecDepth 20000 in
theorem k_X11_house_29 (call : Nat → List Value → qH → qR) (l0 : Value) (l1 : Value) (l2 : Value) (l3 : Value) (l4 : Value) (h : qH) : q_run qm_X11_house call 29 [l0, l1, l2, l3, l4] [] h =
  some (.inl (some (.int (0 : Int32))), h) := by
  refine (q_cut_eq _ _ [0, 29, 54, 91, 98, 99] 200 _ _ _ _).trans ?_
  rfl
set_option maxRecDepth 20000 in
theorem k_X11_house_54 (call : Nat → List Value → qH → qR) (l0 : Nat) (l1 : Int32) (l2 : Int32) (l3 : Int32) (l4 : Int32) (h : qH) : q_run qm_X11_house call 54 [.ref l0, .int l1, .int l2, .int l3, .int l4] [] h =
  q_gI h (.ref l0) 11 22 fun x1 =>
  if q_cmp .ge l4 x1 = true then
    some (.inl (some (.int l3)), h)
  else
    q_gR h (.ref l0) 11 14 fun r2 =>
    q_ald h (.ref r2) 0 ((3 : Int32) * l4) fun x3 =>
    if q_cmp .ne x3 l1 = true then
      q_run qm_X11_house call 98 [.ref l0, .int l1, .int l2, .int l3, .int l4] [.int l3] h
    else
      if q_cmp .eq l2 (1 : Int32) = true then
        q_run qm_X11_house call 91 [.ref l0, .int l1, .int l2, .int l3, .int l4] [.int l3] h
      else
        q_rcv h (.ref l0) 11 (q_rI (call 208 [.ref l0, .int l4] h) q_t0 fun x5 h4 =>
        if q_cmp .eq x5 (0 : Int32) = true then
          q_run qm_X11_house call 98 [.ref l0, .int l1, .int l2, .int l3, .int l4] [.int l3] h4
        else
          q_run qm_X11_house call 91 [.ref l0, .int l1, .int l2, .int l3, .int l4] [.int l3] h4) := by
  refine (q_cut_eq _ _ [0, 29, 54, 91, 98, 99] 200 _ _ _ _).trans ?_
  rfl
set_option maxRecDepth 20000 in
theorem k_X11_house_91 (call : Nat → List Value → qH → qR) (l0 : Nat) (l1 : Int32) (l2 : Int32) (l3 : Value) (l4 : Int32) (s0 : Int32) (h : qH) : q_run qm_X11_house call 91 [.ref l0, .int l1, .int l2, l3, .int l4] [.int s0] h =
  q_run qm_X11_house call 99 [.ref l0, .int l1, .int l2, l3, .int l4] [.int ((1 : Int32) <<< (l4 &&& 31)), .int s0] h := by
  refine (q_cut_eq _ _ [0, 29, 54, 91, 98, 99] 200 _ _ _ _).trans ?_
  rfl
set_option maxRecDepth 20000 in
theorem k_X11_house_98 (call : Nat → List Value → qH → qR) (l0 : Nat) (l1 : Int32) (l2 : Int32) (l3 : Value) (l4 : Int32) (s0 : Int32) (h : qH) : q_run qm_X11_house call 98 [.ref l0, .int l1, .int l2, l3, .int l4] [.int s0] h =
  q_run qm_X11_house call 99 [.ref l0, .int l1, .int l2, l3, .int l4] [.int (0 : Int32), .int s0] h := by
  refine (q_cut_eq _ _ [0, 29, 54, 91, 98, 99] 200 _ _ _ _).trans ?_
  rfl
set_option maxRecDepth 20000 in
theorem k_X11_house_99 (call : Nat → List Value → qH → qR) (l0 : Nat) (l1 : Int32) (l2 : Int32) (l3 : Value) (l4 : Int32) (s0 : Int32) (s1 : Int32) (h : qH) : q_run qm_X11_house call 99 [.ref l0, .int l1, .int l2, l3, .int l4] [.int s1, .int s0] h =
  q_run qm_X11_house call 54 [.ref l0, .int l1, .int l2, .int (s0 ||| s1), .int (l4 + (1 : Int32))] [] h := by
  refine (q_cut_eq _ _ [0, 29, 54, 91, 98, 99] 200 _ _ _ _).trans ?_
  rfl
set_option maxRecDepth 20000 in
theorem k_X11_wink_0 (call : Nat → List Value → qH → qR) (l0 : Nat) (l1 : Int32) (l2 : Int32) (h : qH) : q_run qm_X11_wink call 0 [.ref l0, .int l1, .int l2] [] h =
  q_pV h (.ref l0) 11 0 (.int (0 : Int32)) fun h1 =>
  q_rcv h1 (.ref l0) 11 (q_rI (call 230 [.ref l0, .int l1, .int (1 : Int32)] h1) q_t0 fun x3 h2 =>
  if q_cmp .eq x3 (0 : Int32) = true then
    q_run qm_X11_wink call 29 [.ref l0, .int l1, .int l2] [] h2
  else
    q_rI (call 165 [.int l2, .int (0 : Int32), .int (5 : Int32)] h2) q_t0 fun x5 h4 =>
    q_rcv h4 (.ref l0) 11 (q_rI (call 164 [.ref l0, .int x5, .int (2 : Int32), .int (1 : Int32)] h4) q_t0 fun x7 h6 =>
    if q_cmp .ne x7 (0 : Int32) = true then
      q_rcv h6 (.ref l0) 11 (q_rV (call 205 [.ref l0] h6) q_t0 fun h8 =>
      if q_cmp .ge l2 (2 : Int32) = true then
        if q_cmp .ne l2 (2 : Int32) = true then
          if q_cmp .ne l2 (3 : Int32) = true then
            if q_cmp .ne l2 (4 : Int32) = true then
              q_run qm_X11_wink call 101 [.ref l0, .int l1, .int l2] [] h8
            else
              q_gR h8 (.ref l0) 11 43 fun r10 =>
              q_ald h8 (.ref r10) 0 ((10 : Int32) + l1) fun x11 =>
              q_run qm_X11_wink call 106 [.ref l0, .int l1, .int l2] [.int x11] h8
          else
            q_gR h8 (.ref l0) 11 43 fun r12 =>
            q_ald h8 (.ref r12) 0 ((20 : Int32) + l1) fun x13 =>
            q_run qm_X11_wink call 106 [.ref l0, .int l1, .int l2] [.int x13] h8
        else
          q_gR h8 (.ref l0) 11 43 fun r14 =>
          q_ald h8 (.ref r14) 0 ((0 : Int32) + l1) fun x15 =>
          q_run qm_X11_wink call 106 [.ref l0, .int l1, .int l2] [.int x15] h8
      else
        q_gR h8 (.ref l0) 11 14 fun r16 =>
        q_ald h8 (.ref r16) 0 (((3 : Int32) * l1) + l2) fun x17 =>
        some (.inl (some (.int x17)), h8))
    else
      q_run qm_X11_wink call 29 [.ref l0, .int l1, .int l2] [] h6)) := by
  refine (q_cut_eq _ _ [0, 29, 101, 106] 200 _ _ _ _).trans ?_
  rfl
set_option maxRecDepth 20000 in
theorem k_X11_wink_29 (call : Nat → List Value → qH → qR) (l0 : Value) (l1 : Value) (l2 : Value) (h : qH) : q_run qm_X11_wink call 29 [l0, l1, l2] [] h =
  some (.inl (some (.int (0 : Int32))), h) := by
  refine (q_cut_eq _ _ [0, 29, 101, 106] 200 _ _ _ _).trans ?_
  rfl
set_option maxRecDepth 20000 in
theorem k_X11_wink_101 (call : Nat → List Value → qH → qR) (l0 : Nat) (l1 : Int32) (l2 : Value) (h : qH) : q_run qm_X11_wink call 101 [.ref l0, .int l1, l2] [] h =
  q_rcv h (.ref l0) 11 (q_rI (call 207 [.ref l0, .int l1] h) q_t0 fun x2 h1 =>
  q_run qm_X11_wink call 106 [.ref l0, .int l1, l2] [.int x2] h1) := by
  refine (q_cut_eq _ _ [0, 29, 101, 106] 200 _ _ _ _).trans ?_
  rfl
set_option maxRecDepth 20000 in
theorem k_X11_wink_106 (call : Nat → List Value → qH → qR) (l0 : Value) (l1 : Value) (l2 : Value) (s0 : Int32) (h : qH) : q_run qm_X11_wink call 106 [l0, l1, l2] [.int s0] h =
  some (.inl (some (.int s0)), h) := by
  refine (q_cut_eq _ _ [0, 29, 101, 106] 200 _ _ _ _).trans ?_
  rfl
set_option maxRecDepth 20000 in
theorem k_X11_cup_0 (call : Nat → List Value → qH → qR) (l0 : Nat) (l1 : Int32) (l2 : Int32) (h : qH) : q_run qm_X11_cup call 0 [.ref l0, .int l1, .int l2, q_junk, q_junk] [] h =
  q_pV h (.ref l0) 11 0 (.int (0 : Int32)) fun h1 =>
  q_gI h1 (.ref l0) 11 23 fun x2 =>
  q_rI (call 165 [.int l1, .int (0 : Int32), .int (x2 - (1 : Int32))] h1) q_t0 fun x4 h3 =>
  q_rcv h3 (.ref l0) 11 (q_rI (call 164 [.ref l0, .int x4, .int (1 : Int32), .int (0 : Int32)] h3) q_t0 fun x6 h5 =>
  if q_cmp .eq x6 (0 : Int32) = true then
    q_run qm_X11_cup call 40 [.ref l0, .int l1, .int l2, q_junk, q_junk] [] h5
  else
    q_rI (call 165 [.int l2, .int (0 : Int32), .int (2 : Int32)] h5) q_t0 fun x8 h7 =>
    q_rcv h7 (.ref l0) 11 (q_rI (call 164 [.ref l0, .int x8, .int (2 : Int32), .int (1 : Int32)] h7) q_t0 fun x10 h9 =>
    if q_cmp .ne x10 (0 : Int32) = true then
      if q_cmp .ge l2 (2 : Int32) = true then
        q_run qm_X11_cup call 63 [.ref l0, .int l1, .int l2, .int (0 : Int32), .int (0 : Int32)] [] h9
      else
        q_gR h9 (.ref l0) 11 15 fun r11 =>
        q_ald h9 (.ref r11) 0 (((2 : Int32) * l1) + l2) fun x12 =>
        some (.inl (some (.int x12)), h9)
    else
      q_run qm_X11_cup call 40 [.ref l0, .int l1, .int l2, q_junk, q_junk] [] h9)) := by
  refine (q_cut_eq _ _ [0, 40, 63, 105, 106] 200 _ _ _ _).trans ?_
  rfl
set_option maxRecDepth 20000 in
theorem k_X11_cup_40 (call : Nat → List Value → qH → qR) (l0 : Value) (l1 : Value) (l2 : Value) (l3 : Value) (l4 : Value) (h : qH) : q_run qm_X11_cup call 40 [l0, l1, l2, l3, l4] [] h =
  some (.inl (some (.int (0 : Int32))), h) := by
  refine (q_cut_eq _ _ [0, 40, 63, 105, 106] 200 _ _ _ _).trans ?_
  rfl
set_option maxRecDepth 20000 in
theorem k_X11_cup_63 (call : Nat → List Value → qH → qR) (l0 : Nat) (l1 : Int32) (l2 : Value) (l3 : Int32) (l4 : Int32) (h : qH) : q_run qm_X11_cup call 63 [.ref l0, .int l1, l2, .int l3, .int l4] [] h =
  q_gI h (.ref l0) 11 22 fun x1 =>
  if q_cmp .ge l4 x1 = true then
    some (.inl (some (.int l3)), h)
  else
    q_gR h (.ref l0) 11 42 fun r2 =>
    q_ald h (.ref r2) 0 ((0 : Int32) + l4) fun x3 =>
    if q_cmp .ne x3 (-3 : Int32) = true then
      q_run qm_X11_cup call 105 [.ref l0, .int l1, l2, .int l3, .int l4] [.int l3] h
    else
      q_gR h (.ref l0) 11 42 fun r4 =>
      q_ald h (.ref r4) 0 ((30 : Int32) + l4) fun x5 =>
      if q_cmp .ne x5 l1 = true then
        q_run qm_X11_cup call 105 [.ref l0, .int l1, l2, .int l3, .int l4] [.int l3] h
      else
        q_run qm_X11_cup call 106 [.ref l0, .int l1, l2, .int l3, .int l4] [.int (1 : Int32), .int l3] h := by
  refine (q_cut_eq _ _ [0, 40, 63, 105, 106] 200 _ _ _ _).trans ?_
  rfl
set_option maxRecDepth 20000 in
theorem k_X11_cup_105 (call : Nat → List Value → qH → qR) (l0 : Nat) (l1 : Int32) (l2 : Value) (l3 : Value) (l4 : Int32) (s0 : Int32) (h : qH) : q_run qm_X11_cup call 105 [.ref l0, .int l1, l2, l3, .int l4] [.int s0] h =
  q_run qm_X11_cup call 106 [.ref l0, .int l1, l2, l3, .int l4] [.int (0 : Int32), .int s0] h := by
  refine (q_cut_eq _ _ [0, 40, 63, 105, 106] 200 _ _ _ _).trans ?_
  rfl
set_option maxRecDepth 20000 in
theorem k_X11_cup_106 (call : Nat → List Value → qH → qR) (l0 : Nat) (l1 : Int32) (l2 : Value) (l3 : Value) (l4 : Int32) (s0 : Int32) (s1 : Int32) (h : qH) : q_run qm_X11_cup call 106 [.ref l0, .int l1, l2, l3, .int l4] [.int s1, .int s0] h =
  q_run qm_X11_cup call 63 [.ref l0, .int l1, l2, .int (s0 + s1), .int (l4 + (1 : Int32))] [] h := by
  refine (q_cut_eq _ _ [0, 40, 63, 105, 106] 200 _ _ _ _).trans ?_
  rfl
set_option maxRecDepth 20000 in
theorem k_X11_cell_0 (call : Nat → List Value → qH → qR) (l0 : Nat) (l1 : Int32) (l2 : Int32) (h : qH) : q_run qm_X11_cell call 0 [.ref l0, .int l1, .int l2] [] h =
  q_pV h (.ref l0) 11 0 (.int (0 : Int32)) fun h1 =>
  q_gI h1 (.ref l0) 11 24 fun x2 =>
  q_rI (call 165 [.int l1, .int (0 : Int32), .int (x2 - (1 : Int32))] h1) q_t0 fun x4 h3 =>
  q_rcv h3 (.ref l0) 11 (q_rI (call 164 [.ref l0, .int x4, .int (1 : Int32), .int (0 : Int32)] h3) q_t0 fun x6 h5 =>
  if q_cmp .eq x6 (0 : Int32) = true then
    q_run qm_X11_cell call 40 [.ref l0, .int l1, .int l2] [] h5
  else
    q_rI (call 165 [.int l2, .int (0 : Int32), .int (3 : Int32)] h5) q_t0 fun x8 h7 =>
    q_rcv h7 (.ref l0) 11 (q_rI (call 164 [.ref l0, .int x8, .int (2 : Int32), .int (1 : Int32)] h7) q_t0 fun x10 h9 =>
    if q_cmp .ne x10 (0 : Int32) = true then
      q_rcv h9 (.ref l0) 11 (q_rV (call 205 [.ref l0] h9) q_t0 fun h11 =>
      if q_cmp .ne l2 (0 : Int32) = true then
        if q_cmp .ne l2 (3 : Int32) = true then
          q_rcv h11 (.ref l0) 11 (q_rI (call 206 [.ref l0, .int l1] h11) q_t0 fun x14 h13 =>
          if q_cmp .ne x14 (0 : Int32) = true then
            if q_cmp .ne l2 (1 : Int32) = true then
              q_run qm_X11_cell call 97 [.ref l0, .int l1, .int l2] [.int (0 : Int32), .int l1, .ref l0] h13
            else
              q_rcv h13 (.ref l0) 11 (q_rI (call 206 [.ref l0, .int l1] h13) q_t0 fun x16 h15 =>
              q_run qm_X11_cell call 97 [.ref l0, .int l1, .int l2] [.int (x16 - (1 : Int32)), .int l1, .ref l0] h15)
          else
            q_run qm_X11_cell call 100 [.ref l0, .int l1, .int l2] [.int (-1 : Int32)] h13)
        else
          q_rcv h11 (.ref l0) 11 (q_rI (call 210 [.ref l0, .int l1] h11) q_t0 fun x18 h17 =>
          some (.inl (some (.int x18)), h17))
      else
        q_rcv h11 (.ref l0) 11 (q_rI (call 206 [.ref l0, .int l1] h11) q_t0 fun x20 h19 =>
        some (.inl (some (.int x20)), h19)))
    else
      q_run qm_X11_cell call 40 [.ref l0, .int l1, .int l2] [] h9)) := by
  refine (q_cut_eq _ _ [0, 40, 97, 100] 200 _ _ _ _).trans ?_
  rfl
set_option maxRecDepth 20000 in
theorem k_X11_cell_40 (call : Nat → List Value → qH → qR) (l0 : Value) (l1 : Value) (l2 : Value) (h : qH) : q_run qm_X11_cell call 40 [l0, l1, l2] [] h =
  some (.inl (some (.int (0 : Int32))), h) := by
  refine (q_cut_eq _ _ [0, 40, 97, 100] 200 _ _ _ _).trans ?_
  rfl
set_option maxRecDepth 20000 in
theorem k_X11_cell_97 (call : Nat → List Value → qH → qR) (l0 : Value) (l1 : Value) (l2 : Value) (s0 : Nat) (s1 : Int32) (s2 : Int32) (h : qH) : q_run qm_X11_cell call 97 [l0, l1, l2] [.int s2, .int s1, .ref s0] h =
  q_rcv h (.ref s0) 11 (q_rI (call 209 [.ref s0, .int s1, .int s2] h) q_t0 fun x2 h1 =>
  q_run qm_X11_cell call 100 [l0, l1, l2] [.int x2] h1) := by
  refine (q_cut_eq _ _ [0, 40, 97, 100] 200 _ _ _ _).trans ?_
  rfl
set_option maxRecDepth 20000 in
theorem k_X11_cell_100 (call : Nat → List Value → qH → qR) (l0 : Value) (l1 : Value) (l2 : Value) (s0 : Int32) (h : qH) : q_run qm_X11_cell call 100 [l0, l1, l2] [.int s0] h =
  some (.inl (some (.int s0)), h) := by
  refine (q_cut_eq _ _ [0, 40, 97, 100] 200 _ _ _ _).trans ?_
  rfl
set_option maxRecDepth 20000 in
theorem k_X11_isPress_0 (call : Nat → List Value → qH → qR) (l0 : Int32) (h : qH) : q_run qm_X11_isPress call 0 [.int l0] [] h =
  if q_cmp .lt l0 (1 : Int32) = true then
    q_run qm_X11_isPress call 15 [.int l0] [] h
  else
    if q_cmp .gt l0 (9 : Int32) = true then
      q_run qm_X11_isPress call 15 [.int l0] [] h
    else
      q_run qm_X11_isPress call 16 [.int l0] [.int (1 : Int32)] h := by
  refine (q_cut_eq _ _ [0, 15, 16] 200 _ _ _ _).trans ?_
  rfl
set_option maxRecDepth 20000 in
theorem k_X11_isPress_15 (call : Nat → List Value → qH → qR) (l0 : Value) (h : qH) : q_run qm_X11_isPress call 15 [l0] [] h =
  q_run qm_X11_isPress call 16 [l0] [.int (0 : Int32)] h := by
  refine (q_cut_eq _ _ [0, 15, 16] 200 _ _ _ _).trans ?_
  rfl
set_option maxRecDepth 20000 in
theorem k_X11_isPress_16 (call : Nat → List Value → qH → qR) (l0 : Value) (s0 : Int32) (h : qH) : q_run qm_X11_isPress call 16 [l0] [.int s0] h =
  q_boo true s0 fun z => some (.inl (some (.int z)), h) := by
  refine (q_cut_eq _ _ [0, 15, 16] 200 _ _ _ _).trans ?_
  rfl
set_option maxRecDepth 20000 in
theorem k_X11_flies_0 (call : Nat → List Value → qH → qR) (l0 : Nat) (l1 : Int32) (l2 : Int32) (h : qH) : q_run qm_X11_flies call 0 [.ref l0, .int l1, .int l2] [] h =
  q_pV h (.ref l0) 11 0 (.int (0 : Int32)) fun h1 =>
  q_rcv h1 (.ref l0) 11 (q_rI (call 230 [.ref l0, .int l1, .int (1 : Int32)] h1) q_t0 fun x3 h2 =>
  if q_cmp .eq x3 (0 : Int32) = true then
    q_run qm_X11_flies call 27 [.ref l0, .int l1, .int l2] [] h2
  else
    q_rI (call 235 [.int l2] h2) q_t0 fun x5 h4 =>
    q_rcv h4 (.ref l0) 11 (q_rI (call 164 [.ref l0, .int x5, .int (2 : Int32), .int (1 : Int32)] h4) q_t0 fun x7 h6 =>
    if q_cmp .ne x7 (0 : Int32) = true then
      q_rcv h6 (.ref l0) 11 (q_rV (call 205 [.ref l0] h6) q_t0 fun h8 =>
      q_rcv h8 (.ref l0) 11 (q_rI (call 213 [.ref l0, .int l1, .int l2] h8) q_t0 fun x11 h10 =>
      some (.inl (some (.int x11)), h10)))
    else
      q_run qm_X11_flies call 27 [.ref l0, .int l1, .int l2] [] h6)) := by
  refine (q_cut_eq _ _ [0, 27] 200 _ _ _ _).trans ?_
  rfl
set_option maxRecDepth 20000 in
theorem k_X11_flies_27 (call : Nat → List Value → qH → qR) (l0 : Value) (l1 : Value) (l2 : Value) (h : qH) : q_run qm_X11_flies call 27 [l0, l1, l2] [] h =
  some (.inl (some (.int (0 : Int32))), h) := by
  refine (q_cut_eq _ _ [0, 27] 200 _ _ _ _).trans ?_
  rfl
set_option maxRecDepth 20000 in
theorem k_X11_would_0 (call : Nat → List Value → qH → qR) (l0 : Nat) (l1 : Int32) (l2 : Int32) (l3 : Int32) (l4 : Int32) (l5 : Int32) (l6 : Int32) (l7 : Int32) (l8 : Int32) (l9 : Int32) (h : qH) : q_run qm_X11_would call 0 [.ref l0, .int l1, .int l2, .int l3, .int l4, .int l5, .int l6, .int l7, .int l8, .int l9] [] h =
  q_pV h (.ref l0) 11 0 (.int (0 : Int32)) fun h1 =>
  q_rI (call 235 [.int l1] h1) q_t0 fun x3 h2 =>
  if q_cmp .eq x3 (0 : Int32) = true then
    q_run qm_X11_would call 105 [.ref l0, .int l1, .int l2, .int l3, .int l4, .int l5, .int l6, .int l7, .int l8, .int l9] [.ref l0] h2
  else
    q_rI (call 165 [.int l2, .int (1 : Int32), .int (9 : Int32)] h2) q_t0 fun x5 h4 =>
    if q_cmp .eq x5 (0 : Int32) = true then
      q_run qm_X11_would call 105 [.ref l0, .int l1, .int l2, .int l3, .int l4, .int l5, .int l6, .int l7, .int l8, .int l9] [.ref l0] h4
    else
      q_rI (call 165 [.int l3, .int (0 : Int32), .int (9 : Int32)] h4) q_t0 fun x7 h6 =>
      if q_cmp .eq x7 (0 : Int32) = true then
        q_run qm_X11_would call 105 [.ref l0, .int l1, .int l2, .int l3, .int l4, .int l5, .int l6, .int l7, .int l8, .int l9] [.ref l0] h6
      else
        q_rI (call 165 [.int l4, .int (0 : Int32), .int (9 : Int32)] h6) q_t0 fun x9 h8 =>
        if q_cmp .eq x9 (0 : Int32) = true then
          q_run qm_X11_would call 105 [.ref l0, .int l1, .int l2, .int l3, .int l4, .int l5, .int l6, .int l7, .int l8, .int l9] [.ref l0] h8
        else
          q_rI (call 165 [.int l5, .int (0 : Int32), .int (9 : Int32)] h8) q_t0 fun x11 h10 =>
          if q_cmp .eq x11 (0 : Int32) = true then
            q_run qm_X11_would call 105 [.ref l0, .int l1, .int l2, .int l3, .int l4, .int l5, .int l6, .int l7, .int l8, .int l9] [.ref l0] h10
          else
            q_rI (call 165 [.int l6, .int (0 : Int32), .int (99 : Int32)] h10) q_t0 fun x13 h12 =>
            if q_cmp .eq x13 (0 : Int32) = true then
              q_run qm_X11_would call 105 [.ref l0, .int l1, .int l2, .int l3, .int l4, .int l5, .int l6, .int l7, .int l8, .int l9] [.ref l0] h12
            else
              q_rI (call 165 [.int l7, .int (0 : Int32), .int (29 : Int32)] h12) q_t0 fun x15 h14 =>
              if q_cmp .eq x15 (0 : Int32) = true then
                q_run qm_X11_would call 105 [.ref l0, .int l1, .int l2, .int l3, .int l4, .int l5, .int l6, .int l7, .int l8, .int l9] [.ref l0] h14
              else
                q_rI (call 165 [.int l8, .int (0 : Int32), .int (500 : Int32)] h14) q_t0 fun x17 h16 =>
                if q_cmp .eq x17 (0 : Int32) = true then
                  q_run qm_X11_would call 105 [.ref l0, .int l1, .int l2, .int l3, .int l4, .int l5, .int l6, .int l7, .int l8, .int l9] [.ref l0] h16
                else
                  q_rI (call 165 [.int l9, .int (0 : Int32), .int (9999 : Int32)] h16) q_t0 fun x19 h18 =>
                  if q_cmp .eq x19 (0 : Int32) = true then
                    q_run qm_X11_would call 105 [.ref l0, .int l1, .int l2, .int l3, .int l4, .int l5, .int l6, .int l7, .int l8, .int l9] [.ref l0] h18
                  else
                    q_run qm_X11_would call 106 [.ref l0, .int l1, .int l2, .int l3, .int l4, .int l5, .int l6, .int l7, .int l8, .int l9] [.int (1 : Int32), .ref l0] h18 := by
  refine (q_cut_eq _ _ [0, 105, 106] 200 _ _ _ _).trans ?_
  rfl
set_option maxRecDepth 20000 in
theorem k_X11_would_105 (call : Nat → List Value → qH → qR) (l0 : Nat) (l1 : Int32) (l2 : Int32) (l3 : Int32) (l4 : Int32) (l5 : Int32) (l6 : Int32) (l7 : Int32) (l8 : Int32) (l9 : Int32) (s0 : Nat) (h : qH) : q_run qm_X11_would call 105 [.ref l0, .int l1, .int l2, .int l3, .int l4, .int l5, .int l6, .int l7, .int l8, .int l9] [.ref s0] h =
  q_run qm_X11_would call 106 [.ref l0, .int l1, .int l2, .int l3, .int l4, .int l5, .int l6, .int l7, .int l8, .int l9] [.int (0 : Int32), .ref s0] h := by
  refine (q_cut_eq _ _ [0, 105, 106] 200 _ _ _ _).trans ?_
  rfl
set_option maxRecDepth 20000 in
theorem k_X11_would_106 (call : Nat → List Value → qH → qR) (l0 : Nat) (l1 : Int32) (l2 : Int32) (l3 : Int32) (l4 : Int32) (l5 : Int32) (l6 : Int32) (l7 : Int32) (l8 : Int32) (l9 : Int32) (s0 : Nat) (s1 : Int32) (h : qH) : q_run qm_X11_would call 106 [.ref l0, .int l1, .int l2, .int l3, .int l4, .int l5, .int l6, .int l7, .int l8, .int l9] [.int s1, .ref s0] h =
  q_rcv h (.ref s0) 11 (q_rI (call 164 [.ref s0, .int s1, .int (1 : Int32), .int (1 : Int32)] h) q_t0 fun x2 h1 =>
  if q_cmp .ne x2 (0 : Int32) = true then
    q_rcv h1 (.ref l0) 11 (q_rI (call 211 [.ref l0, .int l1, .int l2, .int l3, .int l4, .int l5, .int l6, .int l7, .int l8, .int l9] h1) q_t0 fun x4 h3 =>
    some (.inl (some (.int x4)), h3))
  else
    some (.inl (some (.int (0 : Int32))), h1)) := by
  refine (q_cut_eq _ _ [0, 105, 106] 200 _ _ _ _).trans ?_
  rfl
set_option maxRecDepth 20000 in
theorem k_X11_downOf_0 (call : Nat → List Value → qH → qR) (l0 : Nat) (l1 : Int32) (l2 : Int32) (l3 : Int32) (h : qH) : q_run qm_X11_downOf call 0 [.ref l0, .int l1, .int l2, .int l3] [] h =
  q_rcv h (.ref l0) 11 (q_rI (call 208 [.ref l0, .int l1] h) q_t0 fun x2 h1 =>
  if q_cmp .eq x2 (0 : Int32) = true then
    q_run qm_X11_downOf call 20 [.ref l0, .int l1, .int l2, .int l3] [.int (-3 : Int32)] h1
  else
    q_rcv h1 (.ref l0) 11 (q_rI (call 214 [.ref l0, .int l1, .int l2, .int l3] h1) q_t0 fun x4 h3 =>
    q_run qm_X11_downOf call 20 [.ref l0, .int l1, .int l2, .int l3] [.int x4] h3)) := by
  refine (q_cut_eq _ _ [0, 20] 200 _ _ _ _).trans ?_
  rfl
set_option maxRecDepth 20000 in
theorem k_X11_downOf_20 (call : Nat → List Value → qH → qR) (l0 : Value) (l1 : Value) (l2 : Value) (l3 : Value) (s0 : Int32) (h : qH) : q_run qm_X11_downOf call 20 [l0, l1, l2, l3] [.int s0] h =
  some (.inl (some (.int s0)), h) := by
  refine (q_cut_eq _ _ [0, 20] 200 _ _ _ _).trans ?_
  rfl
set_option maxRecDepth 20000 in
theorem k_X11_cupOf_0 (call : Nat → List Value → qH → qR) (l0 : Nat) (l1 : Int32) (l2 : Int32) (l3 : Int32) (h : qH) : q_run qm_X11_cupOf call 0 [.ref l0, .int l1, .int l2, .int l3, q_junk] [] h =
  q_rcv h (.ref l0) 11 (q_rI (call 238 [.ref l0, .int l1, .int l2, .int l3] h) q_t0 fun x2 h1 =>
  if q_cmp .lt x2 (0 : Int32) = true then
    q_run qm_X11_cupOf call 27 [.ref l0, .int l1, .int l2, .int l3, .int x2] [] h1
  else
    q_gR h1 (.ref l0) 11 43 fun r3 =>
    q_ald h1 (.ref r3) 0 ((0 : Int32) + l1) fun x4 =>
    if q_cmp .ne x2 x4 = true then
      q_rcv h1 (.ref l0) 11 (q_rI (call 210 [.ref l0, .int x2] h1) q_t0 fun x6 h5 =>
      q_run qm_X11_cupOf call 37 [.ref l0, .int l1, .int l2, .int l3, .int x2] [.int x6] h5)
    else
      q_run qm_X11_cupOf call 27 [.ref l0, .int l1, .int l2, .int l3, .int x2] [] h1) := by
  refine (q_cut_eq _ _ [0, 27, 37] 200 _ _ _ _).trans ?_
  rfl
set_option maxRecDepth 20000 in
theorem k_X11_cupOf_27 (call : Nat → List Value → qH → qR) (l0 : Value) (l1 : Value) (l2 : Value) (l3 : Value) (l4 : Value) (h : qH) : q_run qm_X11_cupOf call 27 [l0, l1, l2, l3, l4] [] h =
  q_run qm_X11_cupOf call 37 [l0, l1, l2, l3, l4] [.int (-1 : Int32)] h := by
  refine (q_cut_eq _ _ [0, 27, 37] 200 _ _ _ _).trans ?_
  rfl
set_option maxRecDepth 20000 in
theorem k_X11_cupOf_37 (call : Nat → List Value → qH → qR) (l0 : Value) (l1 : Value) (l2 : Value) (l3 : Value) (l4 : Value) (s0 : Int32) (h : qH) : q_run qm_X11_cupOf call 37 [l0, l1, l2, l3, l4] [.int s0] h =
  some (.inl (some (.int s0)), h) := by
  refine (q_cut_eq _ _ [0, 27, 37] 200 _ _ _ _).trans ?_
  rfl
set_option maxRecDepth 20000 in
theorem k_X11_down_0 (call : Nat → List Value → qH → qR) (l0 : Nat) (l1 : Int32) (l2 : Int32) (l3 : Int32) (h : qH) : q_run qm_X11_down call 0 [.ref l0, .int l1, .int l2, .int l3] [] h =
  q_pV h (.ref l0) 11 0 (.int (0 : Int32)) fun h1 =>
  q_rcv h1 (.ref l0) 11 (q_rI (call 230 [.ref l0, .int l1, .int (1 : Int32)] h1) q_t0 fun x3 h2 =>
  if q_cmp .eq x3 (0 : Int32) = true then
    q_run qm_X11_down call 44 [.ref l0, .int l1, .int l2, .int l3] [] h2
  else
    q_rI (call 235 [.int l2] h2) q_t0 fun x5 h4 =>
    if q_cmp .eq x5 (0 : Int32) = true then
      q_run qm_X11_down call 35 [.ref l0, .int l1, .int l2, .int l3] [.ref l0] h4
    else
      q_rI (call 165 [.int l3, .int (0 : Int32), .int (1 : Int32)] h4) q_t0 fun x7 h6 =>
      if q_cmp .eq x7 (0 : Int32) = true then
        q_run qm_X11_down call 35 [.ref l0, .int l1, .int l2, .int l3] [.ref l0] h6
      else
        q_run qm_X11_down call 36 [.ref l0, .int l1, .int l2, .int l3] [.int (1 : Int32), .ref l0] h6) := by
  refine (q_cut_eq _ _ [0, 35, 36, 44] 200 _ _ _ _).trans ?_
  rfl
set_option maxRecDepth 20000 in
theorem k_X11_down_35 (call : Nat → List Value → qH → qR) (l0 : Nat) (l1 : Int32) (l2 : Int32) (l3 : Int32) (s0 : Nat) (h : qH) : q_run qm_X11_down call 35 [.ref l0, .int l1, .int l2, .int l3] [.ref s0] h =
  q_run qm_X11_down call 36 [.ref l0, .int l1, .int l2, .int l3] [.int (0 : Int32), .ref s0] h := by
  refine (q_cut_eq _ _ [0, 35, 36, 44] 200 _ _ _ _).trans ?_
  rfl
set_option maxRecDepth 20000 in
theorem k_X11_down_36 (call : Nat → List Value → qH → qR) (l0 : Nat) (l1 : Int32) (l2 : Int32) (l3 : Int32) (s0 : Nat) (s1 : Int32) (h : qH) : q_run qm_X11_down call 36 [.ref l0, .int l1, .int l2, .int l3] [.int s1, .ref s0] h =
  q_rcv h (.ref s0) 11 (q_rI (call 164 [.ref s0, .int s1, .int (2 : Int32), .int (1 : Int32)] h) q_t0 fun x2 h1 =>
  if q_cmp .ne x2 (0 : Int32) = true then
    q_rcv h1 (.ref l0) 11 (q_rV (call 205 [.ref l0] h1) q_t0 fun h3 =>
    q_rcv h3 (.ref l0) 11 (q_rI (call 238 [.ref l0, .int l1, .int l2, .int l3] h3) q_t0 fun x6 h5 =>
    some (.inl (some (.int x6)), h5)))
  else
    q_run qm_X11_down call 44 [.ref l0, .int l1, .int l2, .int l3] [] h1) := by
  refine (q_cut_eq _ _ [0, 35, 36, 44] 200 _ _ _ _).trans ?_
  rfl
set_option maxRecDepth 20000 in
theorem k_X11_down_44 (call : Nat → List Value → qH → qR) (l0 : Value) (l1 : Value) (l2 : Value) (l3 : Value) (h : qH) : q_run qm_X11_down call 44 [l0, l1, l2, l3] [] h =
  some (.inl (some (.int (0 : Int32))), h) := by
  refine (q_cut_eq _ _ [0, 35, 36, 44] 200 _ _ _ _).trans ?_
  rfl
set_option maxRecDepth 20000 in
theorem k_X11_presses_0 (call : Nat → List Value → qH → qR) (l0 : Nat) (l1 : Int32) (l2 : Int32) (h : qH) : q_run qm_X11_presses call 0 [.ref l0, .int l1, .int l2, q_junk, q_junk] [] h =
  q_pV h (.ref l0) 11 0 (.int (0 : Int32)) fun h1 =>
  q_rcv h1 (.ref l0) 11 (q_rI (call 230 [.ref l0, .int l1, .int (1 : Int32)] h1) q_t0 fun x3 h2 =>
  if q_cmp .eq x3 (0 : Int32) = true then
    q_run qm_X11_presses call 29 [.ref l0, .int l1, .int l2, q_junk, q_junk] [] h2
  else
    q_rI (call 165 [.int l2, .int (0 : Int32), .int (1 : Int32)] h2) q_t0 fun x5 h4 =>
    q_rcv h4 (.ref l0) 11 (q_rI (call 164 [.ref l0, .int x5, .int (2 : Int32), .int (1 : Int32)] h4) q_t0 fun x7 h6 =>
    if q_cmp .ne x7 (0 : Int32) = true then
      q_rcv h6 (.ref l0) 11 (q_rV (call 205 [.ref l0] h6) q_t0 fun h8 =>
      q_run qm_X11_presses call 40 [.ref l0, .int l1, .int l2, .int (0 : Int32), .int (1 : Int32)] [] h8)
    else
      q_run qm_X11_presses call 29 [.ref l0, .int l1, .int l2, q_junk, q_junk] [] h6)) := by
  refine (q_cut_eq _ _ [0, 29, 40, 70] 200 _ _ _ _).trans ?_
  rfl
set_option maxRecDepth 20000 in
theorem k_X11_presses_29 (call : Nat → List Value → qH → qR) (l0 : Value) (l1 : Value) (l2 : Value) (l3 : Value) (l4 : Value) (h : qH) : q_run qm_X11_presses call 29 [l0, l1, l2, l3, l4] [] h =
  some (.inl (some (.int (0 : Int32))), h) := by
  refine (q_cut_eq _ _ [0, 29, 40, 70] 200 _ _ _ _).trans ?_
  rfl
set_option maxRecDepth 20000 in
theorem k_X11_presses_40 (call : Nat → List Value → qH → qR) (l0 : Nat) (l1 : Int32) (l2 : Int32) (l3 : Int32) (l4 : Int32) (h : qH) : q_run qm_X11_presses call 40 [.ref l0, .int l1, .int l2, .int l3, .int l4] [] h =
  if q_cmp .gt l4 (9 : Int32) = true then
    some (.inl (some (.int l3)), h)
  else
    q_rcv h (.ref l0) 11 (q_rI (call 239 [.ref l0, .int l1, .int l4, .int l2] h) q_t0 fun x2 h1 =>
    if q_cmp .eq x2 (-1 : Int32) = true then
      q_run qm_X11_presses call 70 [.ref l0, .int l1, .int l2, .int l3, .int l4] [.int (0 : Int32), .int l3] h1
    else
      q_run qm_X11_presses call 70 [.ref l0, .int l1, .int l2, .int l3, .int l4] [.int ((1 : Int32) <<< ((l4 - (1 : Int32)) &&& 31)), .int l3] h1) := by
  refine (q_cut_eq _ _ [0, 29, 40, 70] 200 _ _ _ _).trans ?_
  rfl
set_option maxRecDepth 20000 in
theorem k_X11_presses_70 (call : Nat → List Value → qH → qR) (l0 : Nat) (l1 : Int32) (l2 : Int32) (l3 : Value) (l4 : Int32) (s0 : Int32) (s1 : Int32) (h : qH) : q_run qm_X11_presses call 70 [.ref l0, .int l1, .int l2, l3, .int l4] [.int s1, .int s0] h =
  q_run qm_X11_presses call 40 [.ref l0, .int l1, .int l2, .int (s0 ||| s1), .int (l4 + (1 : Int32))] [] h := by
  refine (q_cut_eq _ _ [0, 29, 40, 70] 200 _ _ _ _).trans ?_
  rfl
set_option maxRecDepth 20000 in
theorem k_X11_gain_0 (call : Nat → List Value → qH → qR) (l0 : Nat) (l1 : Int32) (l2 : Int32) (h : qH) : q_run qm_X11_gain call 0 [.ref l0, .int l1, .int l2, q_junk, q_junk, q_junk, q_junk, q_junk, q_junk, q_junk] [] h =
  q_pV h (.ref l0) 11 0 (.int (0 : Int32)) fun h1 =>
  q_rcv h1 (.ref l0) 11 (q_rI (call 229 [.ref l0, .int l1, .int (1 : Int32)] h1) q_t0 fun x3 h2 =>
  if q_cmp .eq x3 (0 : Int32) = true then
    q_run qm_X11_gain call 29 [.ref l0, .int l1, .int l2, q_junk, q_junk, q_junk, q_junk, q_junk, q_junk, q_junk] [] h2
  else
    q_rI (call 165 [.int l2, .int (0 : Int32), .int (1 : Int32)] h2) q_t0 fun x5 h4 =>
    q_rcv h4 (.ref l0) 11 (q_rI (call 164 [.ref l0, .int x5, .int (2 : Int32), .int (1 : Int32)] h4) q_t0 fun x7 h6 =>
    if q_cmp .ne x7 (0 : Int32) = true then
      q_rcv h6 (.ref l0) 11 (q_rV (call 205 [.ref l0] h6) q_t0 fun h8 =>
      q_run qm_X11_gain call 43 [.ref l0, .int l1, .int l2, .int (-1 : Int32), .int (-1 : Int32), .int (0 : Int32), q_junk, q_junk, q_junk, q_junk] [] h8)
    else
      q_run qm_X11_gain call 29 [.ref l0, .int l1, .int l2, q_junk, q_junk, q_junk, q_junk, q_junk, q_junk, q_junk] [] h6)) := by
  refine (q_cut_eq _ _ [0, 29, 43, 124, 135, 167, 193] 200 _ _ _ _).trans ?_
  rfl
set_option maxRecDepth 20000 in
theorem k_X11_gain_29 (call : Nat → List Value → qH → qR) (l0 : Value) (l1 : Value) (l2 : Value) (l3 : Value) (l4 : Value) (l5 : Value) (l6 : Value) (l7 : Value) (l8 : Value) (l9 : Value) (h : qH) : q_run qm_X11_gain call 29 [l0, l1, l2, l3, l4, l5, l6, l7, l8, l9] [] h =
  some (.inl (some (.int (0 : Int32))), h) := by
  refine (q_cut_eq _ _ [0, 29, 43, 124, 135, 167, 193] 200 _ _ _ _).trans ?_
  rfl
set_option maxRecDepth 20000 in
theorem k_X11_gain_43 (call : Nat → List Value → qH → qR) (l0 : Nat) (l1 : Int32) (l2 : Int32) (l3 : Int32) (l4 : Int32) (l5 : Int32) (l6 : Value) (l7 : Value) (l8 : Value) (l9 : Value) (h : qH) : q_run qm_X11_gain call 43 [.ref l0, .int l1, .int l2, .int l3, .int l4, .int l5, l6, l7, l8, l9] [] h =
  q_gI h (.ref l0) 11 22 fun x1 =>
  if q_cmp .ge l5 ((x1 * (9 : Int32)) * (2 : Int32)) = true then
    if q_cmp .ne l2 (1 : Int32) = true then
      if q_cmp .ne l3 (-1 : Int32) = true then
        q_run qm_X11_gain call 193 [.ref l0, .int l1, .int l2, .int l3, .int l4, .int l5, l6, l7, l8, l9] [.int l3] h
      else
        q_run qm_X11_gain call 193 [.ref l0, .int l1, .int l2, .int l3, .int l4, .int l5, l6, l7, l8, l9] [.int (0 : Int32)] h
    else
      q_run qm_X11_gain call 193 [.ref l0, .int l1, .int l2, .int l3, .int l4, .int l5, l6, l7, l8, l9] [.int l4] h
  else
    q_gR h (.ref l0) 11 14 fun r2 =>
    q_ald h (.ref r2) 0 ((3 : Int32) * (l5 / (18 : Int32))) fun x3 =>
    if q_cmp .ne x3 l1 = true then
      q_run qm_X11_gain call 167 [.ref l0, .int l1, .int l2, .int l3, .int l4, .int l5, .int (l5 / (18 : Int32)), .int (((l5 / (2 : Int32)) - (l5 / (2 : Int32)) / (9 : Int32) * (9 : Int32)) + (1 : Int32)), l8, l9] [] h
    else
      q_rcv h (.ref l0) 11 (q_rI (call 208 [.ref l0, .int (l5 / (18 : Int32))] h) q_t0 fun x5 h4 =>
      if q_cmp .ne x5 (0 : Int32) = true then
        q_rcv h4 (.ref l0) 11 (q_rI (call 239 [.ref l0, .int (l5 / (18 : Int32)), .int (((l5 / (2 : Int32)) - (l5 / (2 : Int32)) / (9 : Int32) * (9 : Int32)) + (1 : Int32)), .int (l5 - l5 / (2 : Int32) * (2 : Int32))] h4) q_t0 fun x7 h6 =>
        if q_cmp .ne x7 (-1 : Int32) = true then
          q_run qm_X11_gain call 124 [.ref l0, .int l1, .int l2, .int l3, .int l4, .int l5, .int (l5 / (18 : Int32)), .int (((l5 / (2 : Int32)) - (l5 / (2 : Int32)) / (9 : Int32) * (9 : Int32)) + (1 : Int32)), .int x7, l9] [] h6
        else
          q_run qm_X11_gain call 135 [.ref l0, .int l1, .int l2, .int l3, .int l4, .int l5, .int (l5 / (18 : Int32)), .int (((l5 / (2 : Int32)) - (l5 / (2 : Int32)) / (9 : Int32) * (9 : Int32)) + (1 : Int32)), .int x7, l9] [.int (0 : Int32)] h6)
      else
        q_run qm_X11_gain call 167 [.ref l0, .int l1, .int l2, .int l3, .int l4, .int l5, .int (l5 / (18 : Int32)), .int (((l5 / (2 : Int32)) - (l5 / (2 : Int32)) / (9 : Int32) * (9 : Int32)) + (1 : Int32)), l8, l9] [] h4) := by
  refine (q_cut_eq _ _ [0, 29, 43, 124, 135, 167, 193] 200 _ _ _ _).trans ?_
  rfl
set_option maxRecDepth 20000 in
theorem k_X11_gain_124 (call : Nat → List Value → qH → qR) (l0 : Nat) (l1 : Int32) (l2 : Int32) (l3 : Int32) (l4 : Int32) (l5 : Int32) (l6 : Int32) (l7 : Int32) (l8 : Int32) (l9 : Value) (h : qH) : q_run qm_X11_gain call 124 [.ref l0, .int l1, .int l2, .int l3, .int l4, .int l5, .int l6, .int l7, .int l8, l9] [] h =
  q_gR h (.ref l0) 11 15 fun r1 =>
  q_ald h (.ref r1) 0 (((2 : Int32) * l8) + (1 : Int32)) fun x2 =>
  q_run qm_X11_gain call 135 [.ref l0, .int l1, .int l2, .int l3, .int l4, .int l5, .int l6, .int l7, .int l8, l9] [.int x2] h := by
  refine (q_cut_eq _ _ [0, 29, 43, 124, 135, 167, 193] 200 _ _ _ _).trans ?_
  rfl
set_option maxRecDepth 20000 in
theorem k_X11_gain_135 (call : Nat → List Value → qH → qR) (l0 : Nat) (l1 : Int32) (l2 : Int32) (l3 : Int32) (l4 : Int32) (l5 : Int32) (l6 : Int32) (l7 : Int32) (l8 : Value) (l9 : Value) (s0 : Int32) (h : qH) : q_run qm_X11_gain call 135 [.ref l0, .int l1, .int l2, .int l3, .int l4, .int l5, .int l6, .int l7, l8, l9] [.int s0] h =
  if q_cmp .gt s0 l3 = true then
    q_run qm_X11_gain call 167 [.ref l0, .int l1, .int l2, .int s0, .int ((((100 : Int32) * l6) + ((10 : Int32) * l7)) + (l5 - l5 / (2 : Int32) * (2 : Int32))), .int l5, .int l6, .int l7, l8, .int s0] [] h
  else
    q_run qm_X11_gain call 167 [.ref l0, .int l1, .int l2, .int l3, .int l4, .int l5, .int l6, .int l7, l8, .int s0] [] h := by
  refine (q_cut_eq _ _ [0, 29, 43, 124, 135, 167, 193] 200 _ _ _ _).trans ?_
  rfl
set_option maxRecDepth 20000 in
theorem k_X11_gain_167 (call : Nat → List Value → qH → qR) (l0 : Nat) (l1 : Int32) (l2 : Int32) (l3 : Int32) (l4 : Int32) (l5 : Int32) (l6 : Value) (l7 : Value) (l8 : Value) (l9 : Value) (h : qH) : q_run qm_X11_gain call 167 [.ref l0, .int l1, .int l2, .int l3, .int l4, .int l5, l6, l7, l8, l9] [] h =
  q_run qm_X11_gain call 43 [.ref l0, .int l1, .int l2, .int l3, .int l4, .int (l5 + (1 : Int32)), l6, l7, l8, l9] [] h := by
  refine (q_cut_eq _ _ [0, 29, 43, 124, 135, 167, 193] 200 _ _ _ _).trans ?_
  rfl
set_option maxRecDepth 20000 in
theorem k_X11_gain_193 (call : Nat → List Value → qH → qR) (l0 : Value) (l1 : Value) (l2 : Value) (l3 : Value) (l4 : Value) (l5 : Value) (l6 : Value) (l7 : Value) (l8 : Value) (l9 : Value) (s0 : Int32) (h : qH) : q_run qm_X11_gain call 193 [l0, l1, l2, l3, l4, l5, l6, l7, l8, l9] [.int s0] h =
  some (.inl (some (.int s0)), h) := by
  refine (q_cut_eq _ _ [0, 29, 43, 124, 135, 167, 193] 200 _ _ _ _).trans ?_
  rfl
set_option maxRecDepth 20000 in
theorem k_X11_findWay_0 (call : Nat → List Value → qH → qR) (l0 : Nat) (l1 : Int32) (h : qH) : q_run qm_X11_findWay call 0 [.ref l0, .int l1, q_junk, q_junk, q_junk, q_junk, q_junk, q_junk, q_junk, q_junk, q_junk] [] h =
  q_pV h (.ref l0) 11 52 (.int (-1 : Int32)) fun h1 =>
  q_pV h1 (.ref l0) 11 53 (.int (-1 : Int32)) fun h2 =>
  q_rcv h2 (.ref l0) 11 (q_rI (call 208 [.ref l0, .int l1] h2) q_t0 fun x4 h3 =>
  if q_cmp .ne x4 (0 : Int32) = true then
    q_run qm_X11_findWay call 21 [.ref l0, .int l1, .int (0 : Int32), q_junk, q_junk, q_junk, q_junk, q_junk, q_junk, q_junk, q_junk] [] h3
  else
    some (.inl none, h3)) := by
  refine (q_cut_eq _ _ [0, 21, 68, 100, 106, 150, 204, 283, 286] 200 _ _ _ _).trans ?_
  rfl
set_option maxRecDepth 20000 in
theorem k_X11_findWay_21 (call : Nat → List Value → qH → qR) (l0 : Nat) (l1 : Int32) (l2 : Int32) (l3 : Value) (l4 : Value) (l5 : Value) (l6 : Value) (l7 : Value) (l8 : Value) (l9 : Value) (l10 : Value) (h : qH) : q_run qm_X11_findWay call 21 [.ref l0, .int l1, .int l2, l3, l4, l5, l6, l7, l8, l9, l10] [] h =
  if q_cmp .ge l2 (30 : Int32) = true then
    q_gR h (.ref l0) 11 43 fun r1 =>
    q_ald h (.ref r1) 0 ((0 : Int32) + l1) fun x2 =>
    q_gR h (.ref l0) 11 49 fun r3 =>
    q_ast h (.ref r3) 0 x2 (0 : Int32) fun h4 =>
    q_gR h4 (.ref l0) 11 51 fun r5 =>
    q_ast h4 (.ref r5) 0 (0 : Int32) x2 fun h6 =>
    q_run qm_X11_findWay call 68 [.ref l0, .int l1, .int x2, .int (1 : Int32), .int (0 : Int32), l5, l6, l7, l8, l9, l10] [] h6
  else
    q_gR h (.ref l0) 11 49 fun r7 =>
    q_ast h (.ref r7) 0 l2 (-1 : Int32) fun h8 =>
    q_run qm_X11_findWay call 21 [.ref l0, .int l1, .int (l2 + (1 : Int32)), l3, l4, l5, l6, l7, l8, l9, l10] [] h8 := by
  refine (q_cut_eq _ _ [0, 21, 68, 100, 106, 150, 204, 283, 286] 200 _ _ _ _).trans ?_
  rfl
set_option maxRecDepth 20000 in
theorem k_X11_findWay_68 (call : Nat → List Value → qH → qR) (l0 : Nat) (l1 : Int32) (l2 : Int32) (l3 : Int32) (l4 : Int32) (l5 : Value) (l6 : Value) (l7 : Value) (l8 : Value) (l9 : Value) (l10 : Value) (h : qH) : q_run qm_X11_findWay call 68 [.ref l0, .int l1, .int l2, .int l3, .int l4, l5, l6, l7, l8, l9, l10] [] h =
  if q_cmp .ge l4 l3 = true then
    some (.inl none, h)
  else
    q_gR h (.ref l0) 11 51 fun r1 =>
    q_ald h (.ref r1) 0 l4 fun x2 =>
    q_rcv h (.ref l0) 11 (q_rI (call 206 [.ref l0, .int x2] h) q_t0 fun x4 h3 =>
    if q_cmp .ne x2 l2 = true then
      q_run qm_X11_findWay call 100 [.ref l0, .int l1, .int l2, .int l3, .int l4, .int x2, l6, l7, l8, l9, l10] [.int (0 : Int32), .int x4] h3
    else
      q_run qm_X11_findWay call 100 [.ref l0, .int l1, .int l2, .int l3, .int l4, .int x2, l6, l7, l8, l9, l10] [.int (1 : Int32), .int x4] h3) := by
  refine (q_cut_eq _ _ [0, 21, 68, 100, 106, 150, 204, 283, 286] 200 _ _ _ _).trans ?_
  rfl
set_option maxRecDepth 20000 in
theorem k_X11_findWay_100 (call : Nat → List Value → qH → qR) (l0 : Nat) (l1 : Int32) (l2 : Int32) (l3 : Int32) (l4 : Int32) (l5 : Int32) (l6 : Value) (l7 : Value) (l8 : Value) (l9 : Value) (l10 : Value) (s0 : Int32) (s1 : Int32) (h : qH) : q_run qm_X11_findWay call 100 [.ref l0, .int l1, .int l2, .int l3, .int l4, .int l5, l6, l7, l8, l9, l10] [.int s1, .int s0] h =
  q_run qm_X11_findWay call 106 [.ref l0, .int l1, .int l2, .int l3, .int l4, .int l5, .int (s0 - s1), .int (0 : Int32), l8, l9, l10] [] h := by
  refine (q_cut_eq _ _ [0, 21, 68, 100, 106, 150, 204, 283, 286] 200 _ _ _ _).trans ?_
  rfl
set_option maxRecDepth 20000 in
theorem k_X11_findWay_106 (call : Nat → List Value → qH → qR) (l0 : Nat) (l1 : Int32) (l2 : Int32) (l3 : Int32) (l4 : Int32) (l5 : Int32) (l6 : Int32) (l7 : Int32) (l8 : Value) (l9 : Value) (l10 : Value) (h : qH) : q_run qm_X11_findWay call 106 [.ref l0, .int l1, .int l2, .int l3, .int l4, .int l5, .int l6, .int l7, l8, l9, l10] [] h =
  if q_cmp .ge l7 (18 : Int32) = true then
    q_run qm_X11_findWay call 68 [.ref l0, .int l1, .int l2, .int l3, .int (l4 + (1 : Int32)), .int l5, .int l6, .int l7, l8, l9, l10] [] h
  else
    q_rcv h (.ref l0) 11 (q_rI (call 212 [.ref l0, .int l1, .int ((l7 / (2 : Int32)) + (1 : Int32)), .int l6, .int l5] h) q_t0 fun x2 h1 =>
    if q_cmp .ne (l7 - l7 / (2 : Int32) * (2 : Int32)) (0 : Int32) = true then
      q_run qm_X11_findWay call 150 [.ref l0, .int l1, .int l2, .int l3, .int l4, .int l5, .int l6, .int l7, .int x2, l9, l10] [.int (l5 - x2)] h1
    else
      q_run qm_X11_findWay call 150 [.ref l0, .int l1, .int l2, .int l3, .int l4, .int l5, .int l6, .int l7, .int x2, l9, l10] [.int (l5 + x2)] h1) := by
  refine (q_cut_eq _ _ [0, 21, 68, 100, 106, 150, 204, 283, 286] 200 _ _ _ _).trans ?_
  rfl
set_option maxRecDepth 20000 in
theorem k_X11_findWay_150 (call : Nat → List Value → qH → qR) (l0 : Nat) (l1 : Int32) (l2 : Int32) (l3 : Int32) (l4 : Int32) (l5 : Int32) (l6 : Int32) (l7 : Int32) (l8 : Int32) (l9 : Value) (l10 : Value) (s0 : Int32) (h : qH) : q_run qm_X11_findWay call 150 [.ref l0, .int l1, .int l2, .int l3, .int l4, .int l5, .int l6, .int l7, .int l8, l9, l10] [.int s0] h =
  if q_cmp .eq l8 (0 : Int32) = true then
    q_run qm_X11_findWay call 286 [.ref l0, .int l1, .int l2, .int l3, .int l4, .int l5, .int l6, .int l7, .int l8, .int s0, l10] [] h
  else
    if q_cmp .lt s0 (0 : Int32) = true then
      q_run qm_X11_findWay call 286 [.ref l0, .int l1, .int l2, .int l3, .int l4, .int l5, .int l6, .int l7, .int l8, .int s0, l10] [] h
    else
      q_gI h (.ref l0) 11 24 fun x1 =>
      if q_cmp .lt s0 x1 = true then
        if q_cmp .ne l5 l2 = true then
          q_gR h (.ref l0) 11 50 fun r2 =>
          q_ald h (.ref r2) 0 l5 fun x3 =>
          q_run qm_X11_findWay call 204 [.ref l0, .int l1, .int l2, .int l3, .int l4, .int l5, .int l6, .int l7, .int l8, .int s0, l10] [.int x3] h
        else
          q_run qm_X11_findWay call 204 [.ref l0, .int l1, .int l2, .int l3, .int l4, .int l5, .int l6, .int l7, .int l8, .int s0, l10] [.int (((10 : Int32) * ((l7 / (2 : Int32)) + (1 : Int32))) + (l7 - l7 / (2 : Int32) * (2 : Int32)))] h
      else
        q_run qm_X11_findWay call 286 [.ref l0, .int l1, .int l2, .int l3, .int l4, .int l5, .int l6, .int l7, .int l8, .int s0, l10] [] h := by
  refine (q_cut_eq _ _ [0, 21, 68, 100, 106, 150, 204, 283, 286] 200 _ _ _ _).trans ?_
  rfl
set_option maxRecDepth 20000 in
theorem k_X11_findWay_204 (call : Nat → List Value → qH → qR) (l0 : Nat) (l1 : Int32) (l2 : Int32) (l3 : Int32) (l4 : Int32) (l5 : Int32) (l6 : Int32) (l7 : Int32) (l8 : Value) (l9 : Int32) (l10 : Value) (s0 : Int32) (h : qH) : q_run qm_X11_findWay call 204 [.ref l0, .int l1, .int l2, .int l3, .int l4, .int l5, .int l6, .int l7, l8, .int l9, l10] [.int s0] h =
  q_rcv h (.ref l0) 11 (q_rI (call 210 [.ref l0, .int l9] h) q_t0 fun x2 h1 =>
  if q_cmp .eq x2 (-1 : Int32) = true then
    q_gR h1 (.ref l0) 11 49 fun r3 =>
    q_ald h1 (.ref r3) 0 l9 fun x4 =>
    if q_cmp .eq x4 (-1 : Int32) = true then
      q_gR h1 (.ref l0) 11 49 fun r5 =>
      q_gR h1 (.ref l0) 11 49 fun r6 =>
      q_ald h1 (.ref r6) 0 l5 fun x7 =>
      q_ast h1 (.ref r5) 0 l9 (x7 + (1 : Int32)) fun h8 =>
      q_gR h8 (.ref l0) 11 50 fun r9 =>
      q_ast h8 (.ref r9) 0 l9 s0 fun h10 =>
      q_gR h10 (.ref l0) 11 51 fun r11 =>
      q_ast h10 (.ref r11) 0 l3 l9 fun h12 =>
      q_run qm_X11_findWay call 283 [.ref l0, .int l1, .int l2, .int l3, .int l4, .int l5, .int l6, .int l7, l8, .int l9, .int s0] [] h12
    else
      q_run qm_X11_findWay call 286 [.ref l0, .int l1, .int l2, .int l3, .int l4, .int l5, .int l6, .int l7, l8, .int l9, .int s0] [] h1
  else
    q_gR h1 (.ref l0) 11 49 fun r13 =>
    q_ald h1 (.ref r13) 0 l5 fun x14 =>
    q_pV h1 (.ref l0) 11 52 (.int (x14 + (1 : Int32))) fun h15 =>
    q_pV h15 (.ref l0) 11 53 (.int s0) fun h16 =>
    some (.inl none, h16)) := by
  refine (q_cut_eq _ _ [0, 21, 68, 100, 106, 150, 204, 283, 286] 200 _ _ _ _).trans ?_
  rfl
set_option maxRecDepth 20000 in
theorem k_X11_findWay_283 (call : Nat → List Value → qH → qR) (l0 : Nat) (l1 : Int32) (l2 : Int32) (l3 : Int32) (l4 : Int32) (l5 : Int32) (l6 : Int32) (l7 : Int32) (l8 : Value) (l9 : Value) (l10 : Value) (h : qH) : q_run qm_X11_findWay call 283 [.ref l0, .int l1, .int l2, .int l3, .int l4, .int l5, .int l6, .int l7, l8, l9, l10] [] h =
  q_run qm_X11_findWay call 286 [.ref l0, .int l1, .int l2, .int (l3 + (1 : Int32)), .int l4, .int l5, .int l6, .int l7, l8, l9, l10] [] h := by
  refine (q_cut_eq _ _ [0, 21, 68, 100, 106, 150, 204, 283, 286] 200 _ _ _ _).trans ?_
  rfl
set_option maxRecDepth 20000 in
theorem k_X11_findWay_286 (call : Nat → List Value → qH → qR) (l0 : Nat) (l1 : Int32) (l2 : Int32) (l3 : Int32) (l4 : Int32) (l5 : Int32) (l6 : Int32) (l7 : Int32) (l8 : Value) (l9 : Value) (l10 : Value) (h : qH) : q_run qm_X11_findWay call 286 [.ref l0, .int l1, .int l2, .int l3, .int l4, .int l5, .int l6, .int l7, l8, l9, l10] [] h =
  q_run qm_X11_findWay call 106 [.ref l0, .int l1, .int l2, .int l3, .int l4, .int l5, .int l6, .int (l7 + (1 : Int32)), l8, l9, l10] [] h := by
  refine (q_cut_eq _ _ [0, 21, 68, 100, 106, 150, 204, 283, 286] 200 _ _ _ _).trans ?_
  rfl
set_option maxRecDepth 20000 in
theorem k_X11_way_0 (call : Nat → List Value → qH → qR) (l0 : Nat) (l1 : Int32) (l2 : Int32) (h : qH) : q_run qm_X11_way call 0 [.ref l0, .int l1, .int l2] [] h =
  q_pV h (.ref l0) 11 0 (.int (0 : Int32)) fun h1 =>
  q_rcv h1 (.ref l0) 11 (q_rI (call 230 [.ref l0, .int l1, .int (1 : Int32)] h1) q_t0 fun x3 h2 =>
  if q_cmp .eq x3 (0 : Int32) = true then
    q_run qm_X11_way call 29 [.ref l0, .int l1, .int l2] [] h2
  else
    q_rI (call 165 [.int l2, .int (0 : Int32), .int (1 : Int32)] h2) q_t0 fun x5 h4 =>
    q_rcv h4 (.ref l0) 11 (q_rI (call 164 [.ref l0, .int x5, .int (2 : Int32), .int (1 : Int32)] h4) q_t0 fun x7 h6 =>
    if q_cmp .ne x7 (0 : Int32) = true then
      q_rcv h6 (.ref l0) 11 (q_rV (call 205 [.ref l0] h6) q_t0 fun h8 =>
      q_rcv h8 (.ref l0) 11 (q_rV (call 243 [.ref l0, .int l1] h8) q_t0 fun h10 =>
      if q_cmp .ne l2 (0 : Int32) = true then
        q_gI h10 (.ref l0) 11 53 fun x12 =>
        q_run qm_X11_way call 55 [.ref l0, .int l1, .int l2] [.int x12] h10
      else
        q_gI h10 (.ref l0) 11 52 fun x13 =>
        q_run qm_X11_way call 55 [.ref l0, .int l1, .int l2] [.int x13] h10))
    else
      q_run qm_X11_way call 29 [.ref l0, .int l1, .int l2] [] h6)) := by
  refine (q_cut_eq _ _ [0, 29, 55] 200 _ _ _ _).trans ?_
  rfl
set_option maxRecDepth 20000 in
theorem k_X11_way_29 (call : Nat → List Value → qH → qR) (l0 : Value) (l1 : Value) (l2 : Value) (h : qH) : q_run qm_X11_way call 29 [l0, l1, l2] [] h =
  some (.inl (some (.int (0 : Int32))), h) := by
  refine (q_cut_eq _ _ [0, 29, 55] 200 _ _ _ _).trans ?_
  rfl
set_option maxRecDepth 20000 in
theorem k_X11_way_55 (call : Nat → List Value → qH → qR) (l0 : Value) (l1 : Value) (l2 : Value) (s0 : Int32) (h : qH) : q_run qm_X11_way call 55 [l0, l1, l2] [.int s0] h =
  some (.inl (some (.int s0)), h) := by
  refine (q_cut_eq _ _ [0, 29, 55] 200 _ _ _ _).trans ?_
  rfl
set_option maxRecDepth 20000 in
theorem k_X11_valueBy_0 (call : Nat → List Value → qH → qR) (l0 : Nat) (l1 : Int32) (l2 : Int32) (l3 : Int32) (h : qH) : q_run qm_X11_valueBy call 0 [.ref l0, .int l1, .int l2, .int l3, q_junk, q_junk] [] h =
  if q_cmp .ge l2 (1 : Int32) = true then
    if q_cmp .le l2 (9 : Int32) = true then
      q_run qm_X11_valueBy call 21 [.ref l0, .int l1, .int l2, .int l3, q_junk, q_junk] [.int l2] h
    else
      q_run qm_X11_valueBy call 21 [.ref l0, .int l1, .int l2, .int l3, q_junk, q_junk] [.int (9 : Int32)] h
  else
    q_run qm_X11_valueBy call 21 [.ref l0, .int l1, .int l2, .int l3, q_junk, q_junk] [.int (1 : Int32)] h := by
  refine (q_cut_eq _ _ [0, 21, 62] 200 _ _ _ _).trans ?_
  rfl
set_option maxRecDepth 20000 in
theorem k_X11_valueBy_21 (call : Nat → List Value → qH → qR) (l0 : Nat) (l1 : Int32) (l2 : Value) (l3 : Int32) (l4 : Value) (l5 : Value) (s0 : Int32) (h : qH) : q_run qm_X11_valueBy call 21 [.ref l0, .int l1, l2, .int l3, l4, l5] [.int s0] h =
  q_rcv h (.ref l0) 11 (q_rI (call 239 [.ref l0, .int l1, .int s0, .int (0 : Int32)] h) q_t0 fun x2 h1 =>
  if q_cmp .ne x2 (-1 : Int32) = true then
    if q_cmp .eq l3 (0 : Int32) = true then
      q_run qm_X11_valueBy call 62 [.ref l0, .int l1, l2, .int l3, .int s0, .int x2] [.int (1 : Int32)] h1
    else
      q_gR h1 (.ref l0) 11 15 fun r3 =>
      q_ald h1 (.ref r3) 0 (((2 : Int32) * x2) + (1 : Int32)) fun x4 =>
      q_run qm_X11_valueBy call 62 [.ref l0, .int l1, l2, .int l3, .int s0, .int x2] [.int x4] h1
  else
    q_run qm_X11_valueBy call 62 [.ref l0, .int l1, l2, .int l3, .int s0, .int x2] [.int (0 : Int32)] h1) := by
  refine (q_cut_eq _ _ [0, 21, 62] 200 _ _ _ _).trans ?_
  rfl
set_option maxRecDepth 20000 in
theorem k_X11_valueBy_62 (call : Nat → List Value → qH → qR) (l0 : Value) (l1 : Value) (l2 : Value) (l3 : Value) (l4 : Value) (l5 : Value) (s0 : Int32) (h : qH) : q_run qm_X11_valueBy call 62 [l0, l1, l2, l3, l4, l5] [.int s0] h =
  some (.inl (some (.int s0)), h) := by
  refine (q_cut_eq _ _ [0, 21, 62] 200 _ _ _ _).trans ?_
  rfl
set_option maxRecDepth 20000 in
theorem k_X11_thumbOf_0 (call : Nat → List Value → qH → qR) (l0 : Nat) (l1 : Int32) (l2 : Int32) (l3 : Int32) (l4 : Int32) (h : qH) : q_run qm_X11_thumbOf call 0 [.ref l0, .int l1, .int l2, .int l3, .int l4] [] h =
  q_rcv h (.ref l0) 11 (q_rI (call 245 [.ref l0, .int l1, .int l2, .int l4] h) q_t0 fun x2 h1 =>
  q_rcv h1 (.ref l0) 11 (q_rI (call 245 [.ref l0, .int l1, .int (l2 - (1 : Int32)), .int l4] h1) q_t0 fun x4 h3 =>
  q_rcv h3 (.ref l0) 11 (q_rI (call 245 [.ref l0, .int l1, .int (l2 + (1 : Int32)), .int l4] h3) q_t0 fun x6 h5 =>
  some (.inl (some (.int ((((2 : Int32) * l3) * x2) + (((16 : Int32) - l3) * (x4 + x6))))), h5)))) := by
  refine (q_cut_eq _ _ [0] 200 _ _ _ _).trans ?_
  rfl
set_option maxRecDepth 20000 in
theorem k_X11_least_0 (call : Nat → List Value → qH → qR) (l0 : Int32) (l1 : Int32) (l2 : Int32) (h : qH) : q_run qm_X11_least call 0 [.int l0, .int l1, .int l2, q_junk, q_junk, q_junk] [] h =
  q_run qm_X11_least call 5 [.int l0, .int l1, .int l2, .int l0, .int l1, q_junk] [] h := by
  refine (q_cut_eq _ _ [0, 5, 35] 200 _ _ _ _).trans ?_
  rfl
set_option maxRecDepth 20000 in
theorem k_X11_least_5 (call : Nat → List Value → qH → qR) (l0 : Int32) (l1 : Int32) (l2 : Int32) (l3 : Int32) (l4 : Int32) (l5 : Value) (h : qH) : q_run qm_X11_least call 5 [.int l0, .int l1, .int l2, .int l3, .int l4, l5] [] h =
  if q_cmp .eq l4 (0 : Int32) = true then
    if q_cmp .ne l2 (0 : Int32) = true then
      q_run qm_X11_least call 35 [.int l0, .int l1, .int l2, .int l3, .int l4, l5] [.int l1] h
    else
      q_run qm_X11_least call 35 [.int l0, .int l1, .int l2, .int l3, .int l4, l5] [.int l0] h
  else
    if l4 = 0 then none else
    q_run qm_X11_least call 5 [.int l0, .int l1, .int l2, .int l4, .int (l3 - l3 / l4 * l4), .int (l3 - l3 / l4 * l4)] [] h := by
  refine (q_cut_eq _ _ [0, 5, 35] 200 _ _ _ _).trans ?_
  rfl
set_option maxRecDepth 20000 in
theorem k_X11_least_35 (call : Nat → List Value → qH → qR) (l0 : Value) (l1 : Value) (l2 : Value) (l3 : Int32) (l4 : Value) (l5 : Value) (s0 : Int32) (h : qH) : q_run qm_X11_least call 35 [l0, l1, l2, .int l3, l4, l5] [.int s0] h =
  if l3 = 0 then none else
  some (.inl (some (.int (s0 / l3))), h) := by
  refine (q_cut_eq _ _ [0, 5, 35] 200 _ _ _ _).trans ?_
  rfl
set_option maxRecDepth 20000 in
theorem k_X11_thumb_0 (call : Nat → List Value → qH → qR) (l0 : Nat) (l1 : Int32) (l2 : Int32) (l3 : Int32) (l4 : Int32) (l5 : Int32) (h : qH) : q_run qm_X11_thumb call 0 [.ref l0, .int l1, .int l2, .int l3, .int l4, .int l5] [] h =
  q_pV h (.ref l0) 11 0 (.int (0 : Int32)) fun h1 =>
  q_rcv h1 (.ref l0) 11 (q_rI (call 230 [.ref l0, .int l1, .int (1 : Int32)] h1) q_t0 fun x3 h2 =>
  if q_cmp .eq x3 (0 : Int32) = true then
    q_run qm_X11_thumb call 55 [.ref l0, .int l1, .int l2, .int l3, .int l4, .int l5] [] h2
  else
    q_rI (call 235 [.int l2] h2) q_t0 fun x5 h4 =>
    if q_cmp .eq x5 (0 : Int32) = true then
      q_run qm_X11_thumb call 46 [.ref l0, .int l1, .int l2, .int l3, .int l4, .int l5] [.ref l0] h4
    else
      q_rI (call 165 [.int l3, .int (0 : Int32), .int (16 : Int32)] h4) q_t0 fun x7 h6 =>
      if q_cmp .eq x7 (0 : Int32) = true then
        q_run qm_X11_thumb call 46 [.ref l0, .int l1, .int l2, .int l3, .int l4, .int l5] [.ref l0] h6
      else
        q_rI (call 165 [.int l4, .int (0 : Int32), .int (1 : Int32)] h6) q_t0 fun x9 h8 =>
        if q_cmp .eq x9 (0 : Int32) = true then
          q_run qm_X11_thumb call 46 [.ref l0, .int l1, .int l2, .int l3, .int l4, .int l5] [.ref l0] h8
        else
          q_run qm_X11_thumb call 47 [.ref l0, .int l1, .int l2, .int l3, .int l4, .int l5] [.int (1 : Int32), .ref l0] h8) := by
  refine (q_cut_eq _ _ [0, 46, 47, 55] 200 _ _ _ _).trans ?_
  rfl
set_option maxRecDepth 20000 in
theorem k_X11_thumb_46 (call : Nat → List Value → qH → qR) (l0 : Nat) (l1 : Int32) (l2 : Int32) (l3 : Int32) (l4 : Int32) (l5 : Int32) (s0 : Nat) (h : qH) : q_run qm_X11_thumb call 46 [.ref l0, .int l1, .int l2, .int l3, .int l4, .int l5] [.ref s0] h =
  q_run qm_X11_thumb call 47 [.ref l0, .int l1, .int l2, .int l3, .int l4, .int l5] [.int (0 : Int32), .ref s0] h := by
  refine (q_cut_eq _ _ [0, 46, 47, 55] 200 _ _ _ _).trans ?_
  rfl
set_option maxRecDepth 20000 in
theorem k_X11_thumb_47 (call : Nat → List Value → qH → qR) (l0 : Nat) (l1 : Int32) (l2 : Int32) (l3 : Int32) (l4 : Int32) (l5 : Int32) (s0 : Nat) (s1 : Int32) (h : qH) : q_run qm_X11_thumb call 47 [.ref l0, .int l1, .int l2, .int l3, .int l4, .int l5] [.int s1, .ref s0] h =
  q_rcv h (.ref s0) 11 (q_rI (call 164 [.ref s0, .int s1, .int (2 : Int32), .int (1 : Int32)] h) q_t0 fun x2 h1 =>
  if q_cmp .ne x2 (0 : Int32) = true then
    q_rcv h1 (.ref l0) 11 (q_rV (call 205 [.ref l0] h1) q_t0 fun h3 =>
    q_rcv h3 (.ref l0) 11 (q_rI (call 246 [.ref l0, .int l1, .int l2, .int l3, .int l5] h3) q_t0 fun x6 h5 =>
    q_rI (call 247 [.int x6, .int (32 : Int32), .int l4] h5) q_t0 fun x8 h7 =>
    some (.inl (some (.int x8)), h7)))
  else
    q_run qm_X11_thumb call 55 [.ref l0, .int l1, .int l2, .int l3, .int l4, .int l5] [] h1) := by
  refine (q_cut_eq _ _ [0, 46, 47, 55] 200 _ _ _ _).trans ?_
  rfl
set_option maxRecDepth 20000 in
theorem k_X11_thumb_55 (call : Nat → List Value → qH → qR) (l0 : Value) (l1 : Value) (l2 : Value) (l3 : Value) (l4 : Value) (l5 : Value) (h : qH) : q_run qm_X11_thumb call 55 [l0, l1, l2, l3, l4, l5] [] h =
  some (.inl (some (.int (0 : Int32))), h) := by
  refine (q_cut_eq _ _ [0, 46, 47, 55] 200 _ _ _ _).trans ?_
  rfl
set_option maxRecDepth 20000 in
theorem k_X11_odds_0 (call : Nat → List Value → qH → qR) (l0 : Nat) (l1 : Int32) (l2 : Int32) (l3 : Int32) (l4 : Int32) (h : qH) : q_run qm_X11_odds call 0 [.ref l0, .int l1, .int l2, .int l3, .int l4] [] h =
  q_rcv h (.ref l0) 11 (q_rI (call 248 [.ref l0, .int l1, .int l2, .int l3, .int l4, .int (0 : Int32)] h) q_t0 fun x2 h1 =>
  some (.inl (some (.int x2)), h1)) := by
  refine (q_cut_eq _ _ [0] 200 _ _ _ _).trans ?_
  rfl
set_option maxRecDepth 20000 in
theorem k_X11_mean_0 (call : Nat → List Value → qH → qR) (l0 : Nat) (l1 : Int32) (l2 : Int32) (l3 : Int32) (l4 : Int32) (h : qH) : q_run qm_X11_mean call 0 [.ref l0, .int l1, .int l2, .int l3, .int l4] [] h =
  q_rcv h (.ref l0) 11 (q_rI (call 248 [.ref l0, .int l1, .int l2, .int l3, .int l4, .int (1 : Int32)] h) q_t0 fun x2 h1 =>
  some (.inl (some (.int x2)), h1)) := by
  refine (q_cut_eq _ _ [0] 200 _ _ _ _).trans ?_
  rfl
set_option maxRecDepth 20000 in
theorem k_X11_reaches_0 (call : Nat → List Value → qH → qR) (l0 : Nat) (l1 : Int32) (l2 : Int32) (h : qH) : q_run qm_X11_reaches call 0 [.ref l0, .int l1, .int l2, q_junk] [] h =
  q_run qm_X11_reaches call 2 [.ref l0, .int l1, .int l2, .int (0 : Int32)] [] h := by
  refine (q_cut_eq _ _ [0, 2] 200 _ _ _ _).trans ?_
  rfl
set_option maxRecDepth 20000 in
theorem k_X11_reaches_2 (call : Nat → List Value → qH → qR) (l0 : Nat) (l1 : Int32) (l2 : Int32) (l3 : Int32) (h : qH) : q_run qm_X11_reaches call 2 [.ref l0, .int l1, .int l2, .int l3] [] h =
  if q_cmp .ge l3 (18 : Int32) = true then
    q_boo true (0 : Int32) fun z => some (.inl (some (.int z)), h)
  else
    q_rcv h (.ref l0) 11 (q_rI (call 239 [.ref l0, .int l1, .int ((l3 / (2 : Int32)) + (1 : Int32)), .int (l3 - l3 / (2 : Int32) * (2 : Int32))] h) q_t0 fun x2 h1 =>
    if q_cmp .ne x2 l2 = true then
      q_run qm_X11_reaches call 2 [.ref l0, .int l1, .int l2, .int (l3 + (1 : Int32))] [] h1
    else
      q_boo true (1 : Int32) fun z => some (.inl (some (.int z)), h1)) := by
  refine (q_cut_eq _ _ [0, 2] 200 _ _ _ _).trans ?_
  rfl
set_option maxRecDepth 20000 in
theorem k_X11_findMatch_0 (call : Nat → List Value → qH → qR) (l0 : Nat) (h : qH) : q_run qm_X11_findMatch call 0 [.ref l0, q_junk, q_junk, q_junk, q_junk, q_junk, q_junk, q_junk, q_junk, q_junk, q_junk] [] h =
  q_rcv h (.ref l0) 11 (q_rV (call 205 [.ref l0] h) q_t0 fun h1 =>
  q_gI h1 (.ref l0) 11 22 fun x3 =>
  q_run qm_X11_findMatch call 15 [.ref l0, .int (x3 + (1 : Int32)), .int (1 : Int32), .int (0 : Int32), q_junk, q_junk, q_junk, q_junk, q_junk, q_junk, q_junk] [] h1) := by
  refine (q_cut_eq _ _ [0, 15, 46, 58, 100, 127, 165, 210, 211, 238, 280] 200 _ _ _ _).trans ?_
  rfl
set_option maxRecDepth 20000 in
theorem k_X11_findMatch_15 (call : Nat → List Value → qH → qR) (l0 : Nat) (l1 : Int32) (l2 : Int32) (l3 : Int32) (l4 : Value) (l5 : Value) (l6 : Value) (l7 : Value) (l8 : Value) (l9 : Value) (l10 : Value) (h : qH) : q_run qm_X11_findMatch call 15 [.ref l0, .int l1, .int l2, .int l3, l4, l5, l6, l7, l8, l9, l10] [] h =
  q_gI h (.ref l0) 11 23 fun x1 =>
  if q_cmp .ge l3 x1 = true then
    q_pV h (.ref l0) 11 56 (.int (-1 : Int32)) fun h2 =>
    q_nar h2 3 (40 : Int32) fun r3 h4 =>
    q_run qm_X11_findMatch call 46 [.ref l0, .int l1, .int l2, .ref r3, .int (0 : Int32), l5, l6, l7, l8, l9, l10] [] h4
  else
    q_run qm_X11_findMatch call 15 [.ref l0, .int l1, .int (l2 * l1), .int (l3 + (1 : Int32)), l4, l5, l6, l7, l8, l9, l10] [] h := by
  refine (q_cut_eq _ _ [0, 15, 46, 58, 100, 127, 165, 210, 211, 238, 280] 200 _ _ _ _).trans ?_
  rfl
set_option maxRecDepth 20000 in
theorem k_X11_findMatch_46 (call : Nat → List Value → qH → qR) (l0 : Nat) (l1 : Int32) (l2 : Int32) (l3 : Nat) (l4 : Int32) (l5 : Value) (l6 : Value) (l7 : Value) (l8 : Value) (l9 : Value) (l10 : Value) (h : qH) : q_run qm_X11_findMatch call 46 [.ref l0, .int l1, .int l2, .ref l3, .int l4, l5, l6, l7, l8, l9, l10] [] h =
  q_gI h (.ref l0) 11 23 fun x1 =>
  if q_cmp .ge l4 x1 = true then
    q_run qm_X11_findMatch call 100 [.ref l0, .int l1, .int l2, .ref l3, .int (0 : Int32), l5, l6, l7, l8, l9, l10] [] h
  else
    q_run qm_X11_findMatch call 58 [.ref l0, .int l1, .int l2, .ref l3, .int l4, .int (0 : Int32), l6, l7, l8, l9, l10] [] h := by
  refine (q_cut_eq _ _ [0, 15, 46, 58, 100, 127, 165, 210, 211, 238, 280] 200 _ _ _ _).trans ?_
  rfl
set_option maxRecDepth 20000 in
theorem k_X11_findMatch_58 (call : Nat → List Value → qH → qR) (l0 : Nat) (l1 : Int32) (l2 : Int32) (l3 : Nat) (l4 : Int32) (l5 : Int32) (l6 : Value) (l7 : Value) (l8 : Value) (l9 : Value) (l10 : Value) (h : qH) : q_run qm_X11_findMatch call 58 [.ref l0, .int l1, .int l2, .ref l3, .int l4, .int l5, l6, l7, l8, l9, l10] [] h =
  q_gI h (.ref l0) 11 22 fun x1 =>
  if q_cmp .ge l5 x1 = true then
    q_run qm_X11_findMatch call 46 [.ref l0, .int l1, .int l2, .ref l3, .int (l4 + (1 : Int32)), .int l5, l6, l7, l8, l9, l10] [] h
  else
    q_rcv h (.ref l0) 11 (q_rI (call 251 [.ref l0, .int l5, .int l4] h) q_t0 fun x3 h2 =>
    q_bst h2 (.ref l3) (((10 : Int32) * l4) + l5) x3 fun h4 =>
    q_run qm_X11_findMatch call 58 [.ref l0, .int l1, .int l2, .ref l3, .int l4, .int (l5 + (1 : Int32)), l6, l7, l8, l9, l10] [] h4) := by
  refine (q_cut_eq _ _ [0, 15, 46, 58, 100, 127, 165, 210, 211, 238, 280] 200 _ _ _ _).trans ?_
  rfl
set_option maxRecDepth 20000 in
theorem k_X11_findMatch_100 (call : Nat → List Value → qH → qR) (l0 : Nat) (l1 : Int32) (l2 : Int32) (l3 : Nat) (l4 : Int32) (l5 : Value) (l6 : Value) (l7 : Value) (l8 : Value) (l9 : Value) (l10 : Value) (h : qH) : q_run qm_X11_findMatch call 100 [.ref l0, .int l1, .int l2, .ref l3, .int l4, l5, l6, l7, l8, l9, l10] [] h =
  if q_cmp .ge l4 l2 = true then
    some (.inl none, h)
  else
    q_gI h (.ref l0) 11 23 fun x1 =>
    q_run qm_X11_findMatch call 127 [.ref l0, .int l1, .int l2, .ref l3, .int l4, .int l4, .int (0 : Int32), .int (0 : Int32), .int (1 : Int32), .int (x1 - (1 : Int32)), l10] [] h := by
  refine (q_cut_eq _ _ [0, 15, 46, 58, 100, 127, 165, 210, 211, 238, 280] 200 _ _ _ _).trans ?_
  rfl
set_option maxRecDepth 20000 in
theorem k_X11_findMatch_127 (call : Nat → List Value → qH → qR) (l0 : Nat) (l1 : Int32) (l2 : Int32) (l3 : Nat) (l4 : Int32) (l5 : Int32) (l6 : Int32) (l7 : Int32) (l8 : Int32) (l9 : Int32) (l10 : Value) (h : qH) : q_run qm_X11_findMatch call 127 [.ref l0, .int l1, .int l2, .ref l3, .int l4, .int l5, .int l6, .int l7, .int l8, .int l9, l10] [] h =
  if q_cmp .lt l9 (0 : Int32) = true then
    if q_cmp .eq l8 (0 : Int32) = true then
      q_run qm_X11_findMatch call 280 [.ref l0, .int l1, .int l2, .ref l3, .int l4, .int l5, .int l6, .int l7, .int l8, .int l9, l10] [] h
    else
      q_gI h (.ref l0) 11 56 fun x1 =>
      if q_cmp .gt l7 x1 = true then
        q_pV h (.ref l0) 11 56 (.int l7) fun h2 =>
        q_gR h2 (.ref l0) 11 54 fun r3 =>
        q_gR h2 (.ref l0) 11 55 fun r4 =>
        q_rcv h2 (.ref l0) 11 (q_rV (call 182 [.ref l0, .ref r3, .ref r4, .int (4 : Int32)] h2) q_t0 fun h5 =>
        q_run qm_X11_findMatch call 280 [.ref l0, .int l1, .int l2, .ref l3, .int l4, .int l5, .int l6, .int l7, .int l8, .int l9, l10] [] h5)
      else
        q_run qm_X11_findMatch call 280 [.ref l0, .int l1, .int l2, .ref l3, .int l4, .int l5, .int l6, .int l7, .int l8, .int l9, l10] [] h
  else
    if l1 = 0 then none else
    if l1 = 0 then none else
    q_gR h (.ref l0) 11 54 fun r7 =>
    q_gI h (.ref l0) 11 22 fun x8 =>
    if q_cmp .ne (l5 - l5 / l1 * l1) x8 = true then
      q_run qm_X11_findMatch call 165 [.ref l0, .int l1, .int l2, .ref l3, .int l4, .int (l5 / l1), .int l6, .int l7, .int l8, .int l9, .int (l5 - l5 / l1 * l1)] [.int (l5 - l5 / l1 * l1), .int l9, .ref r7] h
    else
      q_run qm_X11_findMatch call 165 [.ref l0, .int l1, .int l2, .ref l3, .int l4, .int (l5 / l1), .int l6, .int l7, .int l8, .int l9, .int (l5 - l5 / l1 * l1)] [.int (-1 : Int32), .int l9, .ref r7] h := by
  refine (q_cut_eq _ _ [0, 15, 46, 58, 100, 127, 165, 210, 211, 238, 280] 200 _ _ _ _).trans ?_
  rfl
set_option maxRecDepth 20000 in
theorem k_X11_findMatch_165 (call : Nat → List Value → qH → qR) (l0 : Nat) (l1 : Int32) (l2 : Int32) (l3 : Nat) (l4 : Int32) (l5 : Int32) (l6 : Int32) (l7 : Int32) (l8 : Int32) (l9 : Int32) (l10 : Int32) (s0 : Nat) (s1 : Int32) (s2 : Int32) (h : qH) : q_run qm_X11_findMatch call 165 [.ref l0, .int l1, .int l2, .ref l3, .int l4, .int l5, .int l6, .int l7, .int l8, .int l9, .int l10] [.int s2, .int s1, .ref s0] h =
  q_ast h (.ref s0) 0 s1 s2 fun h1 =>
  q_gI h1 (.ref l0) 11 22 fun x2 =>
  if q_cmp .ne l10 x2 = true then
    if q_cmp .eq l8 (0 : Int32) = true then
      q_run qm_X11_findMatch call 210 [.ref l0, .int l1, .int l2, .ref l3, .int l4, .int l5, .int l6, .int l7, .int l8, .int l9, .int l10] [] h1
    else
      q_bld h1 (.ref l3) (((10 : Int32) * l9) + l10) fun x3 =>
      if q_cmp .eq x3 (0 : Int32) = true then
        q_run qm_X11_findMatch call 210 [.ref l0, .int l1, .int l2, .ref l3, .int l4, .int l5, .int l6, .int l7, .int l8, .int l9, .int l10] [] h1
      else
        if q_cmp .ne ((l6 >>> (l10 &&& 31)) &&& (1 : Int32)) (0 : Int32) = true then
          q_run qm_X11_findMatch call 210 [.ref l0, .int l1, .int l2, .ref l3, .int l4, .int l5, .int l6, .int l7, .int l8, .int l9, .int l10] [] h1
        else
          q_run qm_X11_findMatch call 211 [.ref l0, .int l1, .int l2, .ref l3, .int l4, .int l5, .int l6, .int l7, .int l8, .int l9, .int l10] [.int (1 : Int32)] h1
  else
    q_run qm_X11_findMatch call 238 [.ref l0, .int l1, .int l2, .ref l3, .int l4, .int l5, .int l6, .int l7, .int l8, .int l9, .int l10] [] h1 := by
  refine (q_cut_eq _ _ [0, 15, 46, 58, 100, 127, 165, 210, 211, 238, 280] 200 _ _ _ _).trans ?_
  rfl
set_option maxRecDepth 20000 in
theorem k_X11_findMatch_210 (call : Nat → List Value → qH → qR) (l0 : Nat) (l1 : Int32) (l2 : Int32) (l3 : Nat) (l4 : Int32) (l5 : Int32) (l6 : Int32) (l7 : Int32) (l8 : Value) (l9 : Int32) (l10 : Int32) (h : qH) : q_run qm_X11_findMatch call 210 [.ref l0, .int l1, .int l2, .ref l3, .int l4, .int l5, .int l6, .int l7, l8, .int l9, .int l10] [] h =
  q_run qm_X11_findMatch call 211 [.ref l0, .int l1, .int l2, .ref l3, .int l4, .int l5, .int l6, .int l7, l8, .int l9, .int l10] [.int (0 : Int32)] h := by
  refine (q_cut_eq _ _ [0, 15, 46, 58, 100, 127, 165, 210, 211, 238, 280] 200 _ _ _ _).trans ?_
  rfl
set_option maxRecDepth 20000 in
theorem k_X11_findMatch_211 (call : Nat → List Value → qH → qR) (l0 : Nat) (l1 : Int32) (l2 : Int32) (l3 : Nat) (l4 : Int32) (l5 : Int32) (l6 : Int32) (l7 : Int32) (l8 : Value) (l9 : Int32) (l10 : Int32) (s0 : Int32) (h : qH) : q_run qm_X11_findMatch call 211 [.ref l0, .int l1, .int l2, .ref l3, .int l4, .int l5, .int l6, .int l7, l8, .int l9, .int l10] [.int s0] h =
  q_gR h (.ref l0) 11 15 fun r1 =>
  q_ald h (.ref r1) 0 (((2 : Int32) * l9) + (1 : Int32)) fun x2 =>
  q_run qm_X11_findMatch call 238 [.ref l0, .int l1, .int l2, .ref l3, .int l4, .int l5, .int (l6 ||| ((1 : Int32) <<< (l10 &&& 31))), .int (l7 + x2), .int s0, .int l9, .int l10] [] h := by
  refine (q_cut_eq _ _ [0, 15, 46, 58, 100, 127, 165, 210, 211, 238, 280] 200 _ _ _ _).trans ?_
  rfl
set_option maxRecDepth 20000 in
theorem k_X11_findMatch_238 (call : Nat → List Value → qH → qR) (l0 : Nat) (l1 : Int32) (l2 : Int32) (l3 : Nat) (l4 : Int32) (l5 : Int32) (l6 : Int32) (l7 : Int32) (l8 : Int32) (l9 : Int32) (l10 : Value) (h : qH) : q_run qm_X11_findMatch call 238 [.ref l0, .int l1, .int l2, .ref l3, .int l4, .int l5, .int l6, .int l7, .int l8, .int l9, l10] [] h =
  q_run qm_X11_findMatch call 127 [.ref l0, .int l1, .int l2, .ref l3, .int l4, .int l5, .int l6, .int l7, .int l8, .int (l9 + (-1 : Int32)), l10] [] h := by
  refine (q_cut_eq _ _ [0, 15, 46, 58, 100, 127, 165, 210, 211, 238, 280] 200 _ _ _ _).trans ?_
  rfl
set_option maxRecDepth 20000 in
theorem k_X11_findMatch_280 (call : Nat → List Value → qH → qR) (l0 : Nat) (l1 : Int32) (l2 : Int32) (l3 : Nat) (l4 : Int32) (l5 : Value) (l6 : Value) (l7 : Value) (l8 : Value) (l9 : Value) (l10 : Value) (h : qH) : q_run qm_X11_findMatch call 280 [.ref l0, .int l1, .int l2, .ref l3, .int l4, l5, l6, l7, l8, l9, l10] [] h =
  q_run qm_X11_findMatch call 100 [.ref l0, .int l1, .int l2, .ref l3, .int (l4 + (1 : Int32)), l5, l6, l7, l8, l9, l10] [] h := by
  refine (q_cut_eq _ _ [0, 15, 46, 58, 100, 127, 165, 210, 211, 238, 280] 200 _ _ _ _).trans ?_
  rfl
set_option maxRecDepth 20000 in
theorem k_X11_match_0 (call : Nat → List Value → qH → qR) (l0 : Nat) (h : qH) : q_run qm_X11_match call 0 [.ref l0] [] h =
  q_pV h (.ref l0) 11 0 (.int (0 : Int32)) fun h1 =>
  q_rcv h1 (.ref l0) 11 (q_rV (call 252 [.ref l0] h1) q_t0 fun h2 =>
  q_gI h2 (.ref l0) 11 56 fun x4 =>
  some (.inl (some (.int x4)), h2)) := by
  refine (q_cut_eq _ _ [0] 200 _ _ _ _).trans ?_
  rfl
set_option maxRecDepth 20000 in
theorem k_X11_matched_0 (call : Nat → List Value → qH → qR) (l0 : Nat) (l1 : Int32) (h : qH) : q_run qm_X11_matched call 0 [.ref l0, .int l1] [] h =
  q_pV h (.ref l0) 11 0 (.int (0 : Int32)) fun h1 =>
  q_gI h1 (.ref l0) 11 23 fun x2 =>
  q_rI (call 165 [.int l1, .int (0 : Int32), .int (x2 - (1 : Int32))] h1) q_t0 fun x4 h3 =>
  q_rcv h3 (.ref l0) 11 (q_rI (call 164 [.ref l0, .int x4, .int (1 : Int32), .int (0 : Int32)] h3) q_t0 fun x6 h5 =>
  if q_cmp .ne x6 (0 : Int32) = true then
    q_rcv h5 (.ref l0) 11 (q_rV (call 252 [.ref l0] h5) q_t0 fun h7 =>
    q_gR h7 (.ref l0) 11 55 fun r9 =>
    q_ald h7 (.ref r9) 0 l1 fun x10 =>
    some (.inl (some (.int x10)), h7))
  else
    some (.inl (some (.int (0 : Int32))), h5)) := by
  refine (q_cut_eq _ _ [0] 200 _ _ _ _).trans ?_
  rfl
set_option maxRecDepth 20000 in
theorem k_X11_fliesWith_0 (call : Nat → List Value → qH → qR) (l0 : Nat) (l1 : Int32) (l2 : Int32) (l3 : Int32) (h : qH) : q_run qm_X11_fliesWith call 0 [.ref l0, .int l1, .int l2, .int l3] [] h =
  q_gR h (.ref l0) 11 43 fun r1 =>
  q_ald h (.ref r1) 0 ((0 : Int32) + l1) fun x2 =>
  if q_cmp .ge x2 (0 : Int32) = true then
    q_gR h (.ref l0) 11 14 fun r3 =>
    q_ald h (.ref r3) 0 (((3 : Int32) * l1) + (1 : Int32)) fun x4 =>
    q_gR h (.ref l0) 11 43 fun r5 =>
    q_ald h (.ref r5) 0 ((10 : Int32) + l1) fun x6 =>
    q_gR h (.ref l0) 11 43 fun r7 =>
    q_ald h (.ref r7) 0 ((20 : Int32) + l1) fun x8 =>
    q_gR h (.ref l0) 11 43 fun r9 =>
    q_ald h (.ref r9) 0 ((0 : Int32) + l1) fun x10 =>
    q_gR h (.ref l0) 11 43 fun r11 =>
    q_ald h (.ref r11) 0 (45 : Int32) fun x12 =>
    q_gR h (.ref l0) 11 43 fun r13 =>
    q_gR h (.ref l0) 11 14 fun r14 =>
    q_ald h (.ref r14) 0 ((3 : Int32) * l1) fun x15 =>
    q_ald h (.ref r13) 0 ((40 : Int32) + x15) fun x16 =>
    q_rcv h (.ref l0) 11 (q_rI (call 211 [.ref l0, .int l2, .int x4, .int (l3 / (10 : Int32)), .int (l3 - l3 / (10 : Int32) * (10 : Int32)), .int x6, .int x8, .int x10, .int x12, .int x16] h) q_t0 fun x18 h17 =>
    q_run qm_X11_fliesWith call 87 [.ref l0, .int l1, .int l2, .int l3] [.int x18] h17)
  else
    q_run qm_X11_fliesWith call 87 [.ref l0, .int l1, .int l2, .int l3] [.int (0 : Int32)] h := by
  refine (q_cut_eq _ _ [0, 87] 200 _ _ _ _).trans ?_
  rfl
set_option maxRecDepth 20000 in
theorem k_X11_fliesWith_87 (call : Nat → List Value → qH → qR) (l0 : Value) (l1 : Value) (l2 : Value) (l3 : Value) (s0 : Int32) (h : qH) : q_run qm_X11_fliesWith call 87 [l0, l1, l2, l3] [.int s0] h =
  some (.inl (some (.int s0)), h) := by
  refine (q_cut_eq _ _ [0, 87] 200 _ _ _ _).trans ?_
  rfl
set_option maxRecDepth 20000 in
theorem k_X11_isRight_0 (call : Nat → List Value → qH → qR) (l0 : Nat) (l1 : Int32) (l2 : Int32) (h : qH) : q_run qm_X11_isRight call 0 [.ref l0, .int l1, .int l2, q_junk] [] h =
  q_run qm_X11_isRight call 2 [.ref l0, .int l1, .int l2, .int (1 : Int32)] [] h := by
  refine (q_cut_eq _ _ [0, 2, 36] 200 _ _ _ _).trans ?_
  rfl
set_option maxRecDepth 20000 in
theorem k_X11_isRight_2 (call : Nat → List Value → qH → qR) (l0 : Nat) (l1 : Int32) (l2 : Int32) (l3 : Int32) (h : qH) : q_run qm_X11_isRight call 2 [.ref l0, .int l1, .int l2, .int l3] [] h =
  if q_cmp .gt l3 (9 : Int32) = true then
    q_boo true (1 : Int32) fun z => some (.inl (some (.int z)), h)
  else
    q_rcv h (.ref l0) 11 (q_rI (call 224 [.ref l0, .int l3] h) q_t0 fun x2 h1 =>
    if q_cmp .eq x2 (0 : Int32) = true then
      q_run qm_X11_isRight call 36 [.ref l0, .int l1, .int l2, .int l3] [] h1
    else
      q_rcv h1 (.ref l0) 11 (q_rI (call 255 [.ref l0, .int l1, .int l3, .int l2] h1) q_t0 fun x4 h3 =>
      q_gR h3 (.ref l0) 11 47 fun r5 =>
      q_ald h3 (.ref r5) 0 (l3 - (1 : Int32)) fun x6 =>
      if q_cmp .eq x4 x6 = true then
        q_run qm_X11_isRight call 36 [.ref l0, .int l1, .int l2, .int l3] [] h3
      else
        q_boo true (0 : Int32) fun z => some (.inl (some (.int z)), h3))) := by
  refine (q_cut_eq _ _ [0, 2, 36] 200 _ _ _ _).trans ?_
  rfl
set_option maxRecDepth 20000 in
theorem k_X11_isRight_36 (call : Nat → List Value → qH → qR) (l0 : Nat) (l1 : Int32) (l2 : Int32) (l3 : Int32) (h : qH) : q_run qm_X11_isRight call 36 [.ref l0, .int l1, .int l2, .int l3] [] h =
  q_run qm_X11_isRight call 2 [.ref l0, .int l1, .int l2, .int (l3 + (1 : Int32))] [] h := by
  refine (q_cut_eq _ _ [0, 2, 36] 200 _ _ _ _).trans ?_
  rfl
set_option maxRecDepth 20000 in
theorem k_X11_fits_0 (call : Nat → List Value → qH → qR) (l0 : Nat) (l1 : Int32) (l2 : Int32) (h : qH) : q_run qm_X11_fits call 0 [.ref l0, .int l1, .int l2, q_junk, q_junk, q_junk] [] h =
  q_pV h (.ref l0) 11 0 (.int (0 : Int32)) fun h1 =>
  q_rcv h1 (.ref l0) 11 (q_rI (call 230 [.ref l0, .int l1, .int (1 : Int32)] h1) q_t0 fun x3 h2 =>
  if q_cmp .eq x3 (0 : Int32) = true then
    q_run qm_X11_fits call 29 [.ref l0, .int l1, .int l2, q_junk, q_junk, q_junk] [] h2
  else
    q_rI (call 165 [.int l2, .int (0 : Int32), .int (1 : Int32)] h2) q_t0 fun x5 h4 =>
    q_rcv h4 (.ref l0) 11 (q_rI (call 164 [.ref l0, .int x5, .int (2 : Int32), .int (1 : Int32)] h4) q_t0 fun x7 h6 =>
    if q_cmp .ne x7 (0 : Int32) = true then
      q_rcv h6 (.ref l0) 11 (q_rV (call 205 [.ref l0] h6) q_t0 fun h8 =>
      q_run qm_X11_fits call 43 [.ref l0, .int l1, .int l2, .int (0 : Int32), .int (-1 : Int32), .int (0 : Int32)] [] h8)
    else
      q_run qm_X11_fits call 29 [.ref l0, .int l1, .int l2, q_junk, q_junk, q_junk] [] h6)) := by
  refine (q_cut_eq _ _ [0, 29, 43, 79, 81, 97] 200 _ _ _ _).trans ?_
  rfl
set_option maxRecDepth 20000 in
theorem k_X11_fits_29 (call : Nat → List Value → qH → qR) (l0 : Value) (l1 : Value) (l2 : Value) (l3 : Value) (l4 : Value) (l5 : Value) (h : qH) : q_run qm_X11_fits call 29 [l0, l1, l2, l3, l4, l5] [] h =
  some (.inl (some (.int (0 : Int32))), h) := by
  refine (q_cut_eq _ _ [0, 29, 43, 79, 81, 97] 200 _ _ _ _).trans ?_
  rfl
set_option maxRecDepth 20000 in
theorem k_X11_fits_43 (call : Nat → List Value → qH → qR) (l0 : Nat) (l1 : Int32) (l2 : Int32) (l3 : Int32) (l4 : Int32) (l5 : Int32) (h : qH) : q_run qm_X11_fits call 43 [.ref l0, .int l1, .int l2, .int l3, .int l4, .int l5] [] h =
  if q_cmp .ge l5 (100 : Int32) = true then
    if q_cmp .ne l2 (0 : Int32) = true then
      q_run qm_X11_fits call 97 [.ref l0, .int l1, .int l2, .int l3, .int l4, .int l5] [.int l4] h
    else
      q_run qm_X11_fits call 97 [.ref l0, .int l1, .int l2, .int l3, .int l4, .int l5] [.int l3] h
  else
    q_rcv h (.ref l0) 11 (q_rI (call 256 [.ref l0, .int l1, .int l5] h) q_t0 fun x2 h1 =>
    if q_cmp .ne x2 (0 : Int32) = true then
      if q_cmp .ne l4 (-1 : Int32) = true then
        q_run qm_X11_fits call 79 [.ref l0, .int l1, .int l2, .int (l3 + (1 : Int32)), .int l4, .int l5] [.int l4] h1
      else
        q_run qm_X11_fits call 79 [.ref l0, .int l1, .int l2, .int (l3 + (1 : Int32)), .int l4, .int l5] [.int l5] h1
    else
      q_run qm_X11_fits call 81 [.ref l0, .int l1, .int l2, .int l3, .int l4, .int l5] [] h1) := by
  refine (q_cut_eq _ _ [0, 29, 43, 79, 81, 97] 200 _ _ _ _).trans ?_
  rfl
set_option maxRecDepth 20000 in
theorem k_X11_fits_79 (call : Nat → List Value → qH → qR) (l0 : Nat) (l1 : Int32) (l2 : Int32) (l3 : Int32) (l4 : Value) (l5 : Int32) (s0 : Int32) (h : qH) : q_run qm_X11_fits call 79 [.ref l0, .int l1, .int l2, .int l3, l4, .int l5] [.int s0] h =
  q_run qm_X11_fits call 81 [.ref l0, .int l1, .int l2, .int l3, .int s0, .int l5] [] h := by
  refine (q_cut_eq _ _ [0, 29, 43, 79, 81, 97] 200 _ _ _ _).trans ?_
  rfl
set_option maxRecDepth 20000 in
theorem k_X11_fits_81 (call : Nat → List Value → qH → qR) (l0 : Nat) (l1 : Int32) (l2 : Int32) (l3 : Int32) (l4 : Int32) (l5 : Int32) (h : qH) : q_run qm_X11_fits call 81 [.ref l0, .int l1, .int l2, .int l3, .int l4, .int l5] [] h =
  q_run qm_X11_fits call 43 [.ref l0, .int l1, .int l2, .int l3, .int l4, .int (l5 + (1 : Int32))] [] h := by
  refine (q_cut_eq _ _ [0, 29, 43, 79, 81, 97] 200 _ _ _ _).trans ?_
  rfl
set_option maxRecDepth 20000 in
theorem k_X11_fits_97 (call : Nat → List Value → qH → qR) (l0 : Value) (l1 : Value) (l2 : Value) (l3 : Value) (l4 : Value) (l5 : Value) (s0 : Int32) (h : qH) : q_run qm_X11_fits call 97 [l0, l1, l2, l3, l4, l5] [.int s0] h =
  some (.inl (some (.int s0)), h) := by
  refine (q_cut_eq _ _ [0, 29, 43, 79, 81, 97] 200 _ _ _ _).trans ?_
  rfl
set_option maxRecDepth 20000 in
theorem k_X11_worstAt_0 (call : Nat → List Value → qH → qR) (l0 : Nat) (l1 : Int32) (l2 : Int32) (h : qH) : q_run qm_X11_worstAt call 0 [.ref l0, .int l1, .int l2, q_junk, q_junk, q_junk] [] h =
  q_run qm_X11_worstAt call 2 [.ref l0, .int l1, .int l2, .int (0 : Int32), q_junk, q_junk] [] h := by
  refine (q_cut_eq _ _ [0, 2, 26, 89, 90] 200 _ _ _ _).trans ?_
  rfl
set_option maxRecDepth 20000 in
theorem k_X11_worstAt_2 (call : Nat → List Value → qH → qR) (l0 : Nat) (l1 : Int32) (l2 : Int32) (l3 : Int32) (l4 : Value) (l5 : Value) (h : qH) : q_run qm_X11_worstAt call 2 [.ref l0, .int l1, .int l2, .int l3, l4, l5] [] h =
  if q_cmp .gt l3 (60 : Int32) = true then
    q_run qm_X11_worstAt call 26 [.ref l0, .int l1, .int l2, .int (0 : Int32), .int (0 : Int32), l5] [] h
  else
    q_gR h (.ref l0) 11 57 fun r1 =>
    q_ast h (.ref r1) 0 l3 (0 : Int32) fun h2 =>
    q_run qm_X11_worstAt call 2 [.ref l0, .int l1, .int l2, .int (l3 + (1 : Int32)), l4, l5] [] h2 := by
  refine (q_cut_eq _ _ [0, 2, 26, 89, 90] 200 _ _ _ _).trans ?_
  rfl
set_option maxRecDepth 20000 in
theorem k_X11_worstAt_26 (call : Nat → List Value → qH → qR) (l0 : Nat) (l1 : Int32) (l2 : Int32) (l3 : Int32) (l4 : Int32) (l5 : Value) (h : qH) : q_run qm_X11_worstAt call 26 [.ref l0, .int l1, .int l2, .int l3, .int l4, l5] [] h =
  if q_cmp .ge l4 (100 : Int32) = true then
    some (.inl (some (.int l3)), h)
  else
    q_rcv h (.ref l0) 11 (q_rI (call 256 [.ref l0, .int l1, .int l4] h) q_t0 fun x2 h1 =>
    if q_cmp .ne x2 (0 : Int32) = true then
      q_rcv h1 (.ref l0) 11 (q_rI (call 255 [.ref l0, .int l1, .int l2, .int l4] h1) q_t0 fun x4 h3 =>
      q_gR h3 (.ref l0) 11 57 fun r5 =>
      q_ald h3 (.ref r5) 0 x4 fun x6 =>
      q_ast h3 (.ref r5) 0 x4 (x6 + (1 : Int32)) fun h7 =>
      q_gR h7 (.ref l0) 11 57 fun r8 =>
      q_ald h7 (.ref r8) 0 x4 fun x9 =>
      if q_cmp .le x9 l3 = true then
        q_run qm_X11_worstAt call 89 [.ref l0, .int l1, .int l2, .int l3, .int l4, .int x4] [.int l3] h7
      else
        q_gR h7 (.ref l0) 11 57 fun r10 =>
        q_ald h7 (.ref r10) 0 x4 fun x11 =>
        q_run qm_X11_worstAt call 89 [.ref l0, .int l1, .int l2, .int l3, .int l4, .int x4] [.int x11] h7)
    else
      q_run qm_X11_worstAt call 90 [.ref l0, .int l1, .int l2, .int l3, .int l4, l5] [] h1) := by
  refine (q_cut_eq _ _ [0, 2, 26, 89, 90] 200 _ _ _ _).trans ?_
  rfl
set_option maxRecDepth 20000 in
theorem k_X11_worstAt_89 (call : Nat → List Value → qH → qR) (l0 : Nat) (l1 : Int32) (l2 : Int32) (l3 : Value) (l4 : Int32) (l5 : Value) (s0 : Int32) (h : qH) : q_run qm_X11_worstAt call 89 [.ref l0, .int l1, .int l2, l3, .int l4, l5] [.int s0] h =
  q_run qm_X11_worstAt call 90 [.ref l0, .int l1, .int l2, .int s0, .int l4, l5] [] h := by
  refine (q_cut_eq _ _ [0, 2, 26, 89, 90] 200 _ _ _ _).trans ?_
  rfl
set_option maxRecDepth 20000 in
theorem k_X11_worstAt_90 (call : Nat → List Value → qH → qR) (l0 : Nat) (l1 : Int32) (l2 : Int32) (l3 : Int32) (l4 : Int32) (l5 : Value) (h : qH) : q_run qm_X11_worstAt call 90 [.ref l0, .int l1, .int l2, .int l3, .int l4, l5] [] h =
  q_run qm_X11_worstAt call 26 [.ref l0, .int l1, .int l2, .int l3, .int (l4 + (1 : Int32)), l5] [] h := by
  refine (q_cut_eq _ _ [0, 2, 26, 89, 90] 200 _ _ _ _).trans ?_
  rfl
set_option maxRecDepth 20000 in
theorem k_X11_look_0 (call : Nat → List Value → qH → qR) (l0 : Nat) (l1 : Int32) (l2 : Int32) (h : qH) : q_run qm_X11_look call 0 [.ref l0, .int l1, .int l2, q_junk, q_junk, q_junk, q_junk] [] h =
  q_pV h (.ref l0) 11 0 (.int (0 : Int32)) fun h1 =>
  q_rcv h1 (.ref l0) 11 (q_rI (call 230 [.ref l0, .int l1, .int (1 : Int32)] h1) q_t0 fun x3 h2 =>
  if q_cmp .eq x3 (0 : Int32) = true then
    q_run qm_X11_look call 29 [.ref l0, .int l1, .int l2, q_junk, q_junk, q_junk, q_junk] [] h2
  else
    q_rI (call 165 [.int l2, .int (0 : Int32), .int (1 : Int32)] h2) q_t0 fun x5 h4 =>
    q_rcv h4 (.ref l0) 11 (q_rI (call 164 [.ref l0, .int x5, .int (2 : Int32), .int (1 : Int32)] h4) q_t0 fun x7 h6 =>
    if q_cmp .ne x7 (0 : Int32) = true then
      q_rcv h6 (.ref l0) 11 (q_rV (call 205 [.ref l0] h6) q_t0 fun h8 =>
      q_run qm_X11_look call 43 [.ref l0, .int l1, .int l2, .int (-1 : Int32), .int (-1 : Int32), .int (1 : Int32), q_junk] [] h8)
    else
      q_run qm_X11_look call 29 [.ref l0, .int l1, .int l2, q_junk, q_junk, q_junk, q_junk] [] h6)) := by
  refine (q_cut_eq _ _ [0, 29, 43, 86, 93, 109] 200 _ _ _ _).trans ?_
  rfl
set_option maxRecDepth 20000 in
theorem k_X11_look_29 (call : Nat → List Value → qH → qR) (l0 : Value) (l1 : Value) (l2 : Value) (l3 : Value) (l4 : Value) (l5 : Value) (l6 : Value) (h : qH) : q_run qm_X11_look call 29 [l0, l1, l2, l3, l4, l5, l6] [] h =
  some (.inl (some (.int (0 : Int32))), h) := by
  refine (q_cut_eq _ _ [0, 29, 43, 86, 93, 109] 200 _ _ _ _).trans ?_
  rfl
set_option maxRecDepth 20000 in
theorem k_X11_look_43 (call : Nat → List Value → qH → qR) (l0 : Nat) (l1 : Int32) (l2 : Int32) (l3 : Int32) (l4 : Int32) (l5 : Int32) (l6 : Value) (h : qH) : q_run qm_X11_look call 43 [.ref l0, .int l1, .int l2, .int l3, .int l4, .int l5, l6] [] h =
  if q_cmp .gt l5 (9 : Int32) = true then
    if q_cmp .ne l2 (0 : Int32) = true then
      q_run qm_X11_look call 109 [.ref l0, .int l1, .int l2, .int l3, .int l4, .int l5, l6] [.int l4] h
    else
      q_run qm_X11_look call 109 [.ref l0, .int l1, .int l2, .int l3, .int l4, .int l5, l6] [.int l3] h
  else
    q_rcv h (.ref l0) 11 (q_rI (call 224 [.ref l0, .int l5] h) q_t0 fun x2 h1 =>
    if q_cmp .eq x2 (0 : Int32) = true then
      q_rcv h1 (.ref l0) 11 (q_rI (call 258 [.ref l0, .int l1, .int l5] h1) q_t0 fun x4 h3 =>
      if q_cmp .eq l3 (-1 : Int32) = true then
        q_run qm_X11_look call 86 [.ref l0, .int l1, .int l2, .int l3, .int l4, .int l5, .int x4] [] h3
      else
        if q_cmp .lt x4 l4 = true then
          q_run qm_X11_look call 86 [.ref l0, .int l1, .int l2, .int l3, .int l4, .int l5, .int x4] [] h3
        else
          q_run qm_X11_look call 93 [.ref l0, .int l1, .int l2, .int l3, .int l4, .int l5, .int x4] [] h3)
    else
      q_run qm_X11_look call 93 [.ref l0, .int l1, .int l2, .int l3, .int l4, .int l5, l6] [] h1) := by
  refine (q_cut_eq _ _ [0, 29, 43, 86, 93, 109] 200 _ _ _ _).trans ?_
  rfl
set_option maxRecDepth 20000 in
theorem k_X11_look_86 (call : Nat → List Value → qH → qR) (l0 : Nat) (l1 : Int32) (l2 : Int32) (l3 : Value) (l4 : Value) (l5 : Int32) (l6 : Int32) (h : qH) : q_run qm_X11_look call 86 [.ref l0, .int l1, .int l2, l3, l4, .int l5, .int l6] [] h =
  q_run qm_X11_look call 93 [.ref l0, .int l1, .int l2, .int l5, .int l6, .int l5, .int l6] [] h := by
  refine (q_cut_eq _ _ [0, 29, 43, 86, 93, 109] 200 _ _ _ _).trans ?_
  rfl
set_option maxRecDepth 20000 in
theorem k_X11_look_93 (call : Nat → List Value → qH → qR) (l0 : Nat) (l1 : Int32) (l2 : Int32) (l3 : Int32) (l4 : Int32) (l5 : Int32) (l6 : Value) (h : qH) : q_run qm_X11_look call 93 [.ref l0, .int l1, .int l2, .int l3, .int l4, .int l5, l6] [] h =
  q_run qm_X11_look call 43 [.ref l0, .int l1, .int l2, .int l3, .int l4, .int (l5 + (1 : Int32)), l6] [] h := by
  refine (q_cut_eq _ _ [0, 29, 43, 86, 93, 109] 200 _ _ _ _).trans ?_
  rfl
set_option maxRecDepth 20000 in
theorem k_X11_look_109 (call : Nat → List Value → qH → qR) (l0 : Value) (l1 : Value) (l2 : Value) (l3 : Value) (l4 : Value) (l5 : Value) (l6 : Value) (s0 : Int32) (h : qH) : q_run qm_X11_look call 109 [l0, l1, l2, l3, l4, l5, l6] [.int s0] h =
  some (.inl (some (.int s0)), h) := by
  refine (q_cut_eq _ _ [0, 29, 43, 86, 93, 109] 200 _ _ _ _).trans ?_
  rfl
set_option maxRecDepth 20000 in
theorem k_X11_hasBy_0 (call : Nat → List Value → qH → qR) (l0 : Nat) (l1 : Int32) (l2 : Int32) (l3 : Int32) (l4 : Int32) (h : qH) : q_run qm_X11_hasBy call 0 [.ref l0, .int l1, .int l2, .int l3, .int l4, q_junk, q_junk, q_junk] [] h =
  q_rcv h (.ref l0) 11 (q_rI (call 239 [.ref l0, .int l1, .int l2, .int (0 : Int32)] h) q_t0 fun x2 h1 =>
  if q_cmp .ne x2 (-1 : Int32) = true then
    q_gR h1 (.ref l0) 11 15 fun r3 =>
    q_ald h1 (.ref r3) 0 (((2 : Int32) * x2) + (1 : Int32)) fun x4 =>
    q_run qm_X11_hasBy call 30 [.ref l0, .int l1, .int l2, .int l3, .int l4, .int x2, q_junk, q_junk] [.int x4] h1
  else
    q_run qm_X11_hasBy call 30 [.ref l0, .int l1, .int l2, .int l3, .int l4, .int x2, q_junk, q_junk] [.int (0 : Int32)] h1) := by
  refine (q_cut_eq _ _ [0, 30, 69, 88] 200 _ _ _ _).trans ?_
  rfl
set_option maxRecDepth 20000 in
theorem k_X11_hasBy_30 (call : Nat → List Value → qH → qR) (l0 : Nat) (l1 : Int32) (l2 : Int32) (l3 : Int32) (l4 : Int32) (l5 : Value) (l6 : Value) (l7 : Value) (s0 : Int32) (h : qH) : q_run qm_X11_hasBy call 30 [.ref l0, .int l1, .int l2, .int l3, .int l4, l5, l6, l7] [.int s0] h =
  q_rcv h (.ref l0) 11 (q_rI (call 238 [.ref l0, .int l1, .int l2, .int (0 : Int32)] h) q_t0 fun x2 h1 =>
  if q_cmp .lt x2 (0 : Int32) = true then
    q_run qm_X11_hasBy call 69 [.ref l0, .int l1, .int l2, .int l3, .int l4, l5, .int s0, .int x2] [] h1
  else
    q_rcv h1 (.ref l0) 11 (q_rI (call 238 [.ref l0, .int l3, .int l4, .int (0 : Int32)] h1) q_t0 fun x4 h3 =>
    if q_cmp .ne x2 x4 = true then
      q_run qm_X11_hasBy call 69 [.ref l0, .int l1, .int l2, .int l3, .int l4, l5, .int s0, .int x2] [] h3
    else
      q_rcv h3 (.ref l0) 11 (q_rI (call 210 [.ref l0, .int x2] h3) q_t0 fun x6 h5 =>
      if q_cmp .eq x6 (-1 : Int32) = true then
        if q_cmp .ge l1 l3 = true then
          q_run qm_X11_hasBy call 88 [.ref l0, .int l1, .int l2, .int l3, .int l4, l5, .int s0, .int x2] [.int (s0 + (1 : Int32))] h5
        else
          q_run qm_X11_hasBy call 88 [.ref l0, .int l1, .int l2, .int l3, .int l4, l5, .int s0, .int x2] [.int (s0 - (1 : Int32))] h5
      else
        q_run qm_X11_hasBy call 69 [.ref l0, .int l1, .int l2, .int l3, .int l4, l5, .int s0, .int x2] [] h5))) := by
  refine (q_cut_eq _ _ [0, 30, 69, 88] 200 _ _ _ _).trans ?_
  rfl
set_option maxRecDepth 20000 in
theorem k_X11_hasBy_69 (call : Nat → List Value → qH → qR) (l0 : Value) (l1 : Value) (l2 : Value) (l3 : Value) (l4 : Value) (l5 : Value) (l6 : Int32) (l7 : Value) (h : qH) : q_run qm_X11_hasBy call 69 [l0, l1, l2, l3, l4, l5, .int l6, l7] [] h =
  some (.inl (some (.int l6)), h) := by
  refine (q_cut_eq _ _ [0, 30, 69, 88] 200 _ _ _ _).trans ?_
  rfl
set_option maxRecDepth 20000 in
theorem k_X11_hasBy_88 (call : Nat → List Value → qH → qR) (l0 : Value) (l1 : Value) (l2 : Value) (l3 : Value) (l4 : Value) (l5 : Value) (l6 : Value) (l7 : Value) (s0 : Int32) (h : qH) : q_run qm_X11_hasBy call 88 [l0, l1, l2, l3, l4, l5, l6, l7] [.int s0] h =
  some (.inl (some (.int s0)), h) := by
  refine (q_cut_eq _ _ [0, 30, 69, 88] 200 _ _ _ _).trans ?_
  rfl
set_option maxRecDepth 20000 in
theorem k_X11_isRest_0 (call : Nat → List Value → qH → qR) (l0 : Nat) (l1 : Int32) (l2 : Int32) (l3 : Int32) (l4 : Int32) (h : qH) : q_run qm_X11_isRest call 0 [.ref l0, .int l1, .int l2, .int l3, .int l4, q_junk] [] h =
  q_run qm_X11_isRest call 3 [.ref l0, .int l1, .int l2, .int l3, .int l4, .int (1 : Int32)] [] h := by
  refine (q_cut_eq _ _ [0, 3, 53] 200 _ _ _ _).trans ?_
  rfl
set_option maxRecDepth 20000 in
theorem k_X11_isRest_3 (call : Nat → List Value → qH → qR) (l0 : Nat) (l1 : Int32) (l2 : Int32) (l3 : Int32) (l4 : Int32) (l5 : Int32) (h : qH) : q_run qm_X11_isRest call 3 [.ref l0, .int l1, .int l2, .int l3, .int l4, .int l5] [] h =
  if q_cmp .gt l5 (9 : Int32) = true then
    q_boo true (1 : Int32) fun z => some (.inl (some (.int z)), h)
  else
    q_rcv h (.ref l0) 11 (q_rI (call 260 [.ref l0, .int l1, .int l5, .int l3, .int l4] h) q_t0 fun x2 h1 =>
    q_rcv h1 (.ref l0) 11 (q_rI (call 260 [.ref l0, .int l1, .int l2, .int l3, .int l4] h1) q_t0 fun x4 h3 =>
    if q_cmp .gt x2 x4 = true then
      q_run qm_X11_isRest call 53 [.ref l0, .int l1, .int l2, .int l3, .int l4, .int l5] [] h3
    else
      q_rcv h3 (.ref l0) 11 (q_rI (call 260 [.ref l0, .int l3, .int l5, .int l1, .int l2] h3) q_t0 fun x6 h5 =>
      q_rcv h5 (.ref l0) 11 (q_rI (call 260 [.ref l0, .int l3, .int l4, .int l1, .int l2] h5) q_t0 fun x8 h7 =>
      if q_cmp .le x6 x8 = true then
        q_run qm_X11_isRest call 3 [.ref l0, .int l1, .int l2, .int l3, .int l4, .int (l5 + (1 : Int32))] [] h7
      else
        q_run qm_X11_isRest call 53 [.ref l0, .int l1, .int l2, .int l3, .int l4, .int l5] [] h7)))) := by
  refine (q_cut_eq _ _ [0, 3, 53] 200 _ _ _ _).trans ?_
  rfl
set_option maxRecDepth 20000 in
theorem k_X11_isRest_53 (call : Nat → List Value → qH → qR) (l0 : Value) (l1 : Value) (l2 : Value) (l3 : Value) (l4 : Value) (l5 : Value) (h : qH) : q_run qm_X11_isRest call 53 [l0, l1, l2, l3, l4, l5] [] h =
  q_boo true (0 : Int32) fun z => some (.inl (some (.int z)), h) := by
  refine (q_cut_eq _ _ [0, 3, 53] 200 _ _ _ _).trans ?_
  rfl
set_option maxRecDepth 20000 in
theorem k_X11_duel_0 (call : Nat → List Value → qH → qR) (l0 : Nat) (l1 : Int32) (l2 : Int32) (l3 : Int32) (h : qH) : q_run qm_X11_duel call 0 [.ref l0, .int l1, .int l2, .int l3, q_junk, q_junk, q_junk] [] h =
  q_pV h (.ref l0) 11 0 (.int (0 : Int32)) fun h1 =>
  q_rcv h1 (.ref l0) 11 (q_rI (call 230 [.ref l0, .int l1, .int (1 : Int32)] h1) q_t0 fun x3 h2 =>
  if q_cmp .eq x3 (0 : Int32) = true then
    q_run qm_X11_duel call 23 [.ref l0, .int l1, .int l2, .int l3, q_junk, q_junk, q_junk] [] h2
  else
    q_rcv h2 (.ref l0) 11 (q_rI (call 230 [.ref l0, .int l2, .int (1 : Int32)] h2) q_t0 fun x5 h4 =>
    if q_cmp .ne x5 (0 : Int32) = true then
      q_rcv h4 (.ref l0) 11 (q_rV (call 205 [.ref l0] h4) q_t0 fun h6 =>
      if q_cmp .eq l1 l2 = true then
        q_run qm_X11_duel call 64 [.ref l0, .int l1, .int l2, .int l3, q_junk, q_junk, q_junk] [.ref l0] h6
      else
        q_rcv h6 (.ref l0) 11 (q_rI (call 208 [.ref l0, .int l1] h6) q_t0 fun x9 h8 =>
        if q_cmp .eq x9 (0 : Int32) = true then
          q_run qm_X11_duel call 64 [.ref l0, .int l1, .int l2, .int l3, q_junk, q_junk, q_junk] [.ref l0] h8
        else
          q_rcv h8 (.ref l0) 11 (q_rI (call 208 [.ref l0, .int l2] h8) q_t0 fun x11 h10 =>
          if q_cmp .eq x11 (0 : Int32) = true then
            q_run qm_X11_duel call 64 [.ref l0, .int l1, .int l2, .int l3, q_junk, q_junk, q_junk] [.ref l0] h10
          else
            q_rI (call 165 [.int l3, .int (0 : Int32), .int (2 : Int32)] h10) q_t0 fun x13 h12 =>
            if q_cmp .eq x13 (0 : Int32) = true then
              q_run qm_X11_duel call 64 [.ref l0, .int l1, .int l2, .int l3, q_junk, q_junk, q_junk] [.ref l0] h12
            else
              q_run qm_X11_duel call 65 [.ref l0, .int l1, .int l2, .int l3, q_junk, q_junk, q_junk] [.int (1 : Int32), .ref l0] h12)))
    else
      q_run qm_X11_duel call 23 [.ref l0, .int l1, .int l2, .int l3, q_junk, q_junk, q_junk] [] h4)) := by
  refine (q_cut_eq _ _ [0, 23, 64, 65, 84, 149, 151, 219] 200 _ _ _ _).trans ?_
  rfl
set_option maxRecDepth 20000 in
theorem k_X11_duel_23 (call : Nat → List Value → qH → qR) (l0 : Value) (l1 : Value) (l2 : Value) (l3 : Value) (l4 : Value) (l5 : Value) (l6 : Value) (h : qH) : q_run qm_X11_duel call 23 [l0, l1, l2, l3, l4, l5, l6] [] h =
  some (.inl (some (.int (0 : Int32))), h) := by
  refine (q_cut_eq _ _ [0, 23, 64, 65, 84, 149, 151, 219] 200 _ _ _ _).trans ?_
  rfl
set_option maxRecDepth 20000 in
theorem k_X11_duel_64 (call : Nat → List Value → qH → qR) (l0 : Nat) (l1 : Int32) (l2 : Int32) (l3 : Int32) (l4 : Value) (l5 : Value) (l6 : Value) (s0 : Nat) (h : qH) : q_run qm_X11_duel call 64 [.ref l0, .int l1, .int l2, .int l3, l4, l5, l6] [.ref s0] h =
  q_run qm_X11_duel call 65 [.ref l0, .int l1, .int l2, .int l3, l4, l5, l6] [.int (0 : Int32), .ref s0] h := by
  refine (q_cut_eq _ _ [0, 23, 64, 65, 84, 149, 151, 219] 200 _ _ _ _).trans ?_
  rfl
set_option maxRecDepth 20000 in
theorem k_X11_duel_65 (call : Nat → List Value → qH → qR) (l0 : Nat) (l1 : Int32) (l2 : Int32) (l3 : Int32) (l4 : Value) (l5 : Value) (l6 : Value) (s0 : Nat) (s1 : Int32) (h : qH) : q_run qm_X11_duel call 65 [.ref l0, .int l1, .int l2, .int l3, l4, l5, l6] [.int s1, .ref s0] h =
  q_rcv h (.ref s0) 11 (q_rI (call 164 [.ref s0, .int s1, .int (2 : Int32), .int (1 : Int32)] h) q_t0 fun x2 h1 =>
  if q_cmp .ne x2 (0 : Int32) = true then
    q_run qm_X11_duel call 84 [.ref l0, .int l1, .int l2, .int l3, .int (0 : Int32), .int (-1 : Int32), .int (0 : Int32)] [] h1
  else
    some (.inl (some (.int (0 : Int32))), h1)) := by
  refine (q_cut_eq _ _ [0, 23, 64, 65, 84, 149, 151, 219] 200 _ _ _ _).trans ?_
  rfl
set_option maxRecDepth 20000 in
theorem k_X11_duel_84 (call : Nat → List Value → qH → qR) (l0 : Nat) (l1 : Int32) (l2 : Int32) (l3 : Int32) (l4 : Int32) (l5 : Int32) (l6 : Int32) (h : qH) : q_run qm_X11_duel call 84 [.ref l0, .int l1, .int l2, .int l3, .int l4, .int l5, .int l6] [] h =
  if q_cmp .ge l6 (81 : Int32) = true then
    if q_cmp .ne l3 (0 : Int32) = true then
      if q_cmp .ne l3 (1 : Int32) = true then
        if q_cmp .ne l5 (-1 : Int32) = true then
          q_rcv h (.ref l0) 11 (q_rI (call 260 [.ref l0, .int l1, .int (l5 / (10 : Int32)), .int l2, .int (l5 - l5 / (10 : Int32) * (10 : Int32))] h) q_t0 fun x2 h1 =>
          q_rcv h1 (.ref l0) 11 (q_rI (call 260 [.ref l0, .int l2, .int (l5 - l5 / (10 : Int32) * (10 : Int32)), .int l1, .int (l5 / (10 : Int32))] h1) q_t0 fun x4 h3 =>
          q_run qm_X11_duel call 219 [.ref l0, .int l1, .int l2, .int l3, .int l4, .int l5, .int l6] [.int (x2 + x4)] h3))
        else
          q_run qm_X11_duel call 219 [.ref l0, .int l1, .int l2, .int l3, .int l4, .int l5, .int l6] [.int (0 : Int32)] h
      else
        q_run qm_X11_duel call 219 [.ref l0, .int l1, .int l2, .int l3, .int l4, .int l5, .int l6] [.int l5] h
    else
      q_run qm_X11_duel call 219 [.ref l0, .int l1, .int l2, .int l3, .int l4, .int l5, .int l6] [.int l4] h
  else
    q_rcv h (.ref l0) 11 (q_rI (call 261 [.ref l0, .int l1, .int ((l6 / (9 : Int32)) + (1 : Int32)), .int l2, .int ((l6 - l6 / (9 : Int32) * (9 : Int32)) + (1 : Int32))] h) q_t0 fun x6 h5 =>
    if q_cmp .ne x6 (0 : Int32) = true then
      if q_cmp .ne l5 (-1 : Int32) = true then
        q_run qm_X11_duel call 149 [.ref l0, .int l1, .int l2, .int l3, .int (l4 + (1 : Int32)), .int l5, .int l6] [.int l5] h5
      else
        q_run qm_X11_duel call 149 [.ref l0, .int l1, .int l2, .int l3, .int (l4 + (1 : Int32)), .int l5, .int l6] [.int ((((10 : Int32) * ((l6 / (9 : Int32)) + (1 : Int32))) + (l6 - l6 / (9 : Int32) * (9 : Int32))) + (1 : Int32))] h5
    else
      q_run qm_X11_duel call 151 [.ref l0, .int l1, .int l2, .int l3, .int l4, .int l5, .int l6] [] h5) := by
  refine (q_cut_eq _ _ [0, 23, 64, 65, 84, 149, 151, 219] 200 _ _ _ _).trans ?_
  rfl
set_option maxRecDepth 20000 in
theorem k_X11_duel_149 (call : Nat → List Value → qH → qR) (l0 : Nat) (l1 : Int32) (l2 : Int32) (l3 : Int32) (l4 : Int32) (l5 : Value) (l6 : Int32) (s0 : Int32) (h : qH) : q_run qm_X11_duel call 149 [.ref l0, .int l1, .int l2, .int l3, .int l4, l5, .int l6] [.int s0] h =
  q_run qm_X11_duel call 151 [.ref l0, .int l1, .int l2, .int l3, .int l4, .int s0, .int l6] [] h := by
  refine (q_cut_eq _ _ [0, 23, 64, 65, 84, 149, 151, 219] 200 _ _ _ _).trans ?_
  rfl
set_option maxRecDepth 20000 in
theorem k_X11_duel_151 (call : Nat → List Value → qH → qR) (l0 : Nat) (l1 : Int32) (l2 : Int32) (l3 : Int32) (l4 : Int32) (l5 : Int32) (l6 : Int32) (h : qH) : q_run qm_X11_duel call 151 [.ref l0, .int l1, .int l2, .int l3, .int l4, .int l5, .int l6] [] h =
  q_run qm_X11_duel call 84 [.ref l0, .int l1, .int l2, .int l3, .int l4, .int l5, .int (l6 + (1 : Int32))] [] h := by
  refine (q_cut_eq _ _ [0, 23, 64, 65, 84, 149, 151, 219] 200 _ _ _ _).trans ?_
  rfl
set_option maxRecDepth 20000 in
theorem k_X11_duel_219 (call : Nat → List Value → qH → qR) (l0 : Value) (l1 : Value) (l2 : Value) (l3 : Value) (l4 : Value) (l5 : Value) (l6 : Value) (s0 : Int32) (h : qH) : q_run qm_X11_duel call 219 [l0, l1, l2, l3, l4, l5, l6] [.int s0] h =
  some (.inl (some (.int s0)), h) := by
  refine (q_cut_eq _ _ [0, 23, 64, 65, 84, 149, 151, 219] 200 _ _ _ _).trans ?_
  rfl
set_option maxRecDepth 20000 in
theorem k_X11_panic_0 (call : Nat → List Value → qH → qR) (l0 : Nat) (l1 : Int32) (l2 : Int32) (h : qH) : q_run qm_X11_panic call 0 [.ref l0, .int l1, .int l2, q_junk, q_junk, q_junk, q_junk] [] h =
  q_pV h (.ref l0) 11 0 (.int (0 : Int32)) fun h1 =>
  q_rI (call 235 [.int l1] h1) q_t0 fun x3 h2 =>
  if q_cmp .eq x3 (0 : Int32) = true then
    q_run qm_X11_panic call 26 [.ref l0, .int l1, .int l2, q_junk, q_junk, q_junk, q_junk] [.ref l0] h2
  else
    q_rI (call 165 [.int l2, .int (0 : Int32), .int (2 : Int32)] h2) q_t0 fun x5 h4 =>
    if q_cmp .eq x5 (0 : Int32) = true then
      q_run qm_X11_panic call 26 [.ref l0, .int l1, .int l2, q_junk, q_junk, q_junk, q_junk] [.ref l0] h4
    else
      q_run qm_X11_panic call 27 [.ref l0, .int l1, .int l2, q_junk, q_junk, q_junk, q_junk] [.int (1 : Int32), .ref l0] h4 := by
  refine (q_cut_eq _ _ [0, 26, 27, 54, 114, 137, 140, 161, 168, 193] 200 _ _ _ _).trans ?_
  rfl
set_option maxRecDepth 20000 in
theorem k_X11_panic_26 (call : Nat → List Value → qH → qR) (l0 : Nat) (l1 : Int32) (l2 : Int32) (l3 : Value) (l4 : Value) (l5 : Value) (l6 : Value) (s0 : Nat) (h : qH) : q_run qm_X11_panic call 26 [.ref l0, .int l1, .int l2, l3, l4, l5, l6] [.ref s0] h =
  q_run qm_X11_panic call 27 [.ref l0, .int l1, .int l2, l3, l4, l5, l6] [.int (0 : Int32), .ref s0] h := by
  refine (q_cut_eq _ _ [0, 26, 27, 54, 114, 137, 140, 161, 168, 193] 200 _ _ _ _).trans ?_
  rfl
set_option maxRecDepth 20000 in
theorem k_X11_panic_27 (call : Nat → List Value → qH → qR) (l0 : Nat) (l1 : Int32) (l2 : Int32) (l3 : Value) (l4 : Value) (l5 : Value) (l6 : Value) (s0 : Nat) (s1 : Int32) (h : qH) : q_run qm_X11_panic call 27 [.ref l0, .int l1, .int l2, l3, l4, l5, l6] [.int s1, .ref s0] h =
  q_rcv h (.ref s0) 11 (q_rI (call 164 [.ref s0, .int s1, .int (1 : Int32), .int (1 : Int32)] h) q_t0 fun x2 h1 =>
  if q_cmp .ne x2 (0 : Int32) = true then
    q_rcv h1 (.ref l0) 11 (q_rV (call 205 [.ref l0] h1) q_t0 fun h3 =>
    q_rcv h3 (.ref l0) 11 (q_rI (call 219 [.ref l0] h3) q_t0 fun x6 h5 =>
    q_run qm_X11_panic call 54 [.ref l0, .int l1, .int l2, .int (0 : Int32), .int (0 : Int32), .int (0 : Int32), l6] [] h5))
  else
    some (.inl (some (.int (0 : Int32))), h1)) := by
  refine (q_cut_eq _ _ [0, 26, 27, 54, 114, 137, 140, 161, 168, 193] 200 _ _ _ _).trans ?_
  rfl
set_option maxRecDepth 20000 in
theorem k_X11_panic_54 (call : Nat → List Value → qH → qR) (l0 : Nat) (l1 : Int32) (l2 : Int32) (l3 : Int32) (l4 : Int32) (l5 : Int32) (l6 : Value) (h : qH) : q_run qm_X11_panic call 54 [.ref l0, .int l1, .int l2, .int l3, .int l4, .int l5, l6] [] h =
  q_gI h (.ref l0) 11 22 fun x1 =>
  if q_cmp .ge l5 x1 = true then
    if q_cmp .ge l2 (2 : Int32) = true then
      q_run qm_X11_panic call 168 [.ref l0, .int l1, .int l2, .int l3, .int l4, .int (0 : Int32), .int (0 : Int32)] [] h
    else
      if q_cmp .ne l2 (0 : Int32) = true then
        q_run qm_X11_panic call 161 [.ref l0, .int l1, .int l2, .int l3, .int l4, .int l5, l6] [.int l4] h
      else
        q_run qm_X11_panic call 161 [.ref l0, .int l1, .int l2, .int l3, .int l4, .int l5, l6] [.int l3] h
  else
    q_gR h (.ref l0) 11 45 fun r2 =>
    q_bld h (.ref r2) l5 fun x3 =>
    if q_cmp .eq x3 (0 : Int32) = true then
      q_run qm_X11_panic call 140 [.ref l0, .int l1, .int l2, .int l3, .int l4, .int l5, l6] [] h
    else
      q_rcv h (.ref l0) 11 (q_rI (call 208 [.ref l0, .int l5] h) q_t0 fun x5 h4 =>
      if q_cmp .ne x5 (0 : Int32) = true then
        q_rcv h4 (.ref l0) 11 (q_rI (call 217 [.ref l0, .int l5, .int l1, .int (0 : Int32)] h4) q_t0 fun x7 h6 =>
        q_gR h6 (.ref l0) 11 43 fun r8 =>
        q_ald h6 (.ref r8) 0 ((0 : Int32) + l5) fun x9 =>
        if q_cmp .ne x9 (-3 : Int32) = true then
          q_run qm_X11_panic call 114 [.ref l0, .int l1, .int l2, .int l3, .int l4, .int l5, l6] [.int (0 : Int32), .int l3] h6
        else
          q_run qm_X11_panic call 114 [.ref l0, .int l1, .int l2, .int l3, .int l4, .int l5, l6] [.int (1 : Int32), .int l3] h6)
      else
        q_run qm_X11_panic call 140 [.ref l0, .int l1, .int l2, .int l3, .int l4, .int l5, l6] [] h4) := by
  refine (q_cut_eq _ _ [0, 26, 27, 54, 114, 137, 140, 161, 168, 193] 200 _ _ _ _).trans ?_
  rfl
set_option maxRecDepth 20000 in
theorem k_X11_panic_114 (call : Nat → List Value → qH → qR) (l0 : Nat) (l1 : Int32) (l2 : Int32) (l3 : Value) (l4 : Int32) (l5 : Int32) (l6 : Value) (s0 : Int32) (s1 : Int32) (h : qH) : q_run qm_X11_panic call 114 [.ref l0, .int l1, .int l2, l3, .int l4, .int l5, l6] [.int s1, .int s0] h =
  q_gR h (.ref l0) 11 43 fun r1 =>
  q_ald h (.ref r1) 0 ((0 : Int32) + l5) fun x2 =>
  if q_cmp .ne x2 (-2 : Int32) = true then
    q_run qm_X11_panic call 137 [.ref l0, .int l1, .int l2, .int (s0 + s1), .int l4, .int l5, l6] [.int (0 : Int32), .int l4] h
  else
    q_run qm_X11_panic call 137 [.ref l0, .int l1, .int l2, .int (s0 + s1), .int l4, .int l5, l6] [.int (1 : Int32), .int l4] h := by
  refine (q_cut_eq _ _ [0, 26, 27, 54, 114, 137, 140, 161, 168, 193] 200 _ _ _ _).trans ?_
  rfl
set_option maxRecDepth 20000 in
theorem k_X11_panic_137 (call : Nat → List Value → qH → qR) (l0 : Nat) (l1 : Int32) (l2 : Int32) (l3 : Int32) (l4 : Value) (l5 : Int32) (l6 : Value) (s0 : Int32) (s1 : Int32) (h : qH) : q_run qm_X11_panic call 137 [.ref l0, .int l1, .int l2, .int l3, l4, .int l5, l6] [.int s1, .int s0] h =
  q_run qm_X11_panic call 140 [.ref l0, .int l1, .int l2, .int l3, .int (s0 + s1), .int l5, l6] [] h := by
  refine (q_cut_eq _ _ [0, 26, 27, 54, 114, 137, 140, 161, 168, 193] 200 _ _ _ _).trans ?_
  rfl
set_option maxRecDepth 20000 in
theorem k_X11_panic_140 (call : Nat → List Value → qH → qR) (l0 : Nat) (l1 : Int32) (l2 : Int32) (l3 : Int32) (l4 : Int32) (l5 : Int32) (l6 : Value) (h : qH) : q_run qm_X11_panic call 140 [.ref l0, .int l1, .int l2, .int l3, .int l4, .int l5, l6] [] h =
  q_run qm_X11_panic call 54 [.ref l0, .int l1, .int l2, .int l3, .int l4, .int (l5 + (1 : Int32)), l6] [] h := by
  refine (q_cut_eq _ _ [0, 26, 27, 54, 114, 137, 140, 161, 168, 193] 200 _ _ _ _).trans ?_
  rfl
set_option maxRecDepth 20000 in
theorem k_X11_panic_161 (call : Nat → List Value → qH → qR) (l0 : Value) (l1 : Value) (l2 : Value) (l3 : Value) (l4 : Value) (l5 : Value) (l6 : Value) (s0 : Int32) (h : qH) : q_run qm_X11_panic call 161 [l0, l1, l2, l3, l4, l5, l6] [.int s0] h =
  some (.inl (some (.int s0)), h) := by
  refine (q_cut_eq _ _ [0, 26, 27, 54, 114, 137, 140, 161, 168, 193] 200 _ _ _ _).trans ?_
  rfl
set_option maxRecDepth 20000 in
theorem k_X11_panic_168 (call : Nat → List Value → qH → qR) (l0 : Nat) (l1 : Value) (l2 : Value) (l3 : Value) (l4 : Value) (l5 : Int32) (l6 : Int32) (h : qH) : q_run qm_X11_panic call 168 [.ref l0, l1, l2, l3, l4, .int l5, .int l6] [] h =
  q_gI h (.ref l0) 11 22 fun x1 =>
  if q_cmp .ge l6 x1 = true then
    some (.inl (some (.int l5)), h)
  else
    q_rcv h (.ref l0) 11 (q_rI (call 207 [.ref l0, .int l6] h) q_t0 fun x3 h2 =>
    if q_cmp .le x3 (0 : Int32) = true then
      q_run qm_X11_panic call 193 [.ref l0, l1, l2, l3, l4, .int l5, .int l6] [.int (0 : Int32), .int l5] h2
    else
      q_run qm_X11_panic call 193 [.ref l0, l1, l2, l3, l4, .int l5, .int l6] [.int (1 : Int32), .int l5] h2) := by
  refine (q_cut_eq _ _ [0, 26, 27, 54, 114, 137, 140, 161, 168, 193] 200 _ _ _ _).trans ?_
  rfl
set_option maxRecDepth 20000 in
theorem k_X11_panic_193 (call : Nat → List Value → qH → qR) (l0 : Nat) (l1 : Value) (l2 : Value) (l3 : Value) (l4 : Value) (l5 : Value) (l6 : Int32) (s0 : Int32) (s1 : Int32) (h : qH) : q_run qm_X11_panic call 193 [.ref l0, l1, l2, l3, l4, l5, .int l6] [.int s1, .int s0] h =
  q_run qm_X11_panic call 168 [.ref l0, l1, l2, l3, l4, .int (s0 + s1), .int (l6 + (1 : Int32))] [] h := by
  refine (q_cut_eq _ _ [0, 26, 27, 54, 114, 137, 140, 161, 168, 193] 200 _ _ _ _).trans ?_
  rfl
set_option maxRecDepth 20000 in
theorem k_X11_givenBy_0 (call : Nat → List Value → qH → qR) (l0 : Nat) (l1 : Int32) (h : qH) : q_run qm_X11_givenBy call 0 [.ref l0, .int l1, q_junk, q_junk] [] h =
  q_run qm_X11_givenBy call 4 [.ref l0, .int l1, .int (0 : Int32), .int (0 : Int32)] [] h := by
  refine (q_cut_eq _ _ [0, 4, 39] 200 _ _ _ _).trans ?_
  rfl
set_option maxRecDepth 20000 in
theorem k_X11_givenBy_4 (call : Nat → List Value → qH → qR) (l0 : Nat) (l1 : Int32) (l2 : Int32) (l3 : Int32) (h : qH) : q_run qm_X11_givenBy call 4 [.ref l0, .int l1, .int l2, .int l3] [] h =
  q_gI h (.ref l0) 11 21 fun x1 =>
  if q_cmp .ge l3 x1 = true then
    some (.inl (some (.int l2)), h)
  else
    q_gR h (.ref l0) 11 42 fun r2 =>
    q_ald h (.ref r2) 0 ((40 : Int32) + l3) fun x3 =>
    if q_cmp .ge x3 l1 = true then
      q_run qm_X11_givenBy call 39 [.ref l0, .int l1, .int l2, .int l3] [.int l1, .int l2] h
    else
      q_gR h (.ref l0) 11 42 fun r4 =>
      q_ald h (.ref r4) 0 ((40 : Int32) + l3) fun x5 =>
      q_run qm_X11_givenBy call 39 [.ref l0, .int l1, .int l2, .int l3] [.int x5, .int l2] h := by
  refine (q_cut_eq _ _ [0, 4, 39] 200 _ _ _ _).trans ?_
  rfl
set_option maxRecDepth 20000 in
theorem k_X11_givenBy_39 (call : Nat → List Value → qH → qR) (l0 : Nat) (l1 : Int32) (l2 : Value) (l3 : Int32) (s0 : Int32) (s1 : Int32) (h : qH) : q_run qm_X11_givenBy call 39 [.ref l0, .int l1, l2, .int l3] [.int s1, .int s0] h =
  q_run qm_X11_givenBy call 4 [.ref l0, .int l1, .int (s0 + s1), .int (l3 + (1 : Int32))] [] h := by
  refine (q_cut_eq _ _ [0, 4, 39] 200 _ _ _ _).trans ?_
  rfl
set_option maxRecDepth 20000 in
theorem k_X11_level_0 (call : Nat → List Value → qH → qR) (l0 : Nat) (l1 : Int32) (l2 : Int32) (h : qH) : q_run qm_X11_level call 0 [.ref l0, .int l1, .int l2, q_junk] [] h =
  q_pV h (.ref l0) 11 0 (.int (0 : Int32)) fun h1 =>
  q_rcv h1 (.ref l0) 11 (q_rI (call 229 [.ref l0, .int l1, .int (1 : Int32)] h1) q_t0 fun x3 h2 =>
  if q_cmp .eq x3 (0 : Int32) = true then
    q_run qm_X11_level call 31 [.ref l0, .int l1, .int l2, q_junk] [] h2
  else
    q_rI (call 165 [.int l2, .int (0 : Int32), .int (9999 : Int32)] h2) q_t0 fun x5 h4 =>
    q_rcv h4 (.ref l0) 11 (q_rI (call 164 [.ref l0, .int x5, .int (2 : Int32), .int (1 : Int32)] h4) q_t0 fun x7 h6 =>
    if q_cmp .ne x7 (0 : Int32) = true then
      q_run qm_X11_level call 35 [.ref l0, .int l1, .int l2, .int (0 : Int32)] [] h6
    else
      q_run qm_X11_level call 31 [.ref l0, .int l1, .int l2, q_junk] [] h6)) := by
  refine (q_cut_eq _ _ [0, 31, 35, 59, 85] 200 _ _ _ _).trans ?_
  rfl
set_option maxRecDepth 20000 in
theorem k_X11_level_31 (call : Nat → List Value → qH → qR) (l0 : Value) (l1 : Value) (l2 : Value) (l3 : Value) (h : qH) : q_run qm_X11_level call 31 [l0, l1, l2, l3] [] h =
  some (.inl (some (.int (0 : Int32))), h) := by
  refine (q_cut_eq _ _ [0, 31, 35, 59, 85] 200 _ _ _ _).trans ?_
  rfl
set_option maxRecDepth 20000 in
theorem k_X11_level_35 (call : Nat → List Value → qH → qR) (l0 : Nat) (l1 : Int32) (l2 : Int32) (l3 : Int32) (h : qH) : q_run qm_X11_level call 35 [.ref l0, .int l1, .int l2, .int l3] [] h =
  if q_cmp .ge l3 (9999 : Int32) = true then
    q_run qm_X11_level call 59 [.ref l0, .int l1, .int l2, .int l3] [] h
  else
    q_rcv h (.ref l0) 11 (q_rI (call 264 [.ref l0, .int (l3 + (1 : Int32))] h) q_t0 fun x2 h1 =>
    if q_cmp .gt x2 l2 = true then
      q_run qm_X11_level call 59 [.ref l0, .int l1, .int l2, .int l3] [] h1
    else
      q_run qm_X11_level call 35 [.ref l0, .int l1, .int l2, .int (l3 + (1 : Int32))] [] h1) := by
  refine (q_cut_eq _ _ [0, 31, 35, 59, 85] 200 _ _ _ _).trans ?_
  rfl
set_option maxRecDepth 20000 in
theorem k_X11_level_59 (call : Nat → List Value → qH → qR) (l0 : Nat) (l1 : Int32) (l2 : Value) (l3 : Int32) (h : qH) : q_run qm_X11_level call 59 [.ref l0, .int l1, l2, .int l3] [] h =
  q_gR h (.ref l0) 11 42 fun r1 =>
  q_ald h (.ref r1) 0 ((40 : Int32) + l1) fun x2 =>
  if q_cmp .ge x2 l3 = true then
    q_run qm_X11_level call 85 [.ref l0, .int l1, l2, .int l3] [.int l3] h
  else
    q_gR h (.ref l0) 11 42 fun r3 =>
    q_ald h (.ref r3) 0 ((40 : Int32) + l1) fun x4 =>
    q_run qm_X11_level call 85 [.ref l0, .int l1, l2, .int l3] [.int x4] h := by
  refine (q_cut_eq _ _ [0, 31, 35, 59, 85] 200 _ _ _ _).trans ?_
  rfl
set_option maxRecDepth 20000 in
theorem k_X11_level_85 (call : Nat → List Value → qH → qR) (l0 : Value) (l1 : Value) (l2 : Value) (l3 : Value) (s0 : Int32) (h : qH) : q_run qm_X11_level call 85 [l0, l1, l2, l3] [.int s0] h =
  some (.inl (some (.int s0)), h) := by
  refine (q_cut_eq _ _ [0, 31, 35, 59, 85] 200 _ _ _ _).trans ?_
  rfl
set_option maxRecDepth 20000 in
theorem k_X11_trust_0 (call : Nat → List Value → qH → qR) (l0 : Nat) (l1 : Int32) (h : qH) : q_run qm_X11_trust call 0 [.ref l0, .int l1, q_junk, q_junk, q_junk] [] h =
  q_pV h (.ref l0) 11 0 (.int (0 : Int32)) fun h1 =>
  q_rI (call 165 [.int l1, .int (0 : Int32), .int (1 : Int32)] h1) q_t0 fun x3 h2 =>
  q_rcv h2 (.ref l0) 11 (q_rI (call 164 [.ref l0, .int x3, .int (1 : Int32), .int (1 : Int32)] h2) q_t0 fun x5 h4 =>
  if q_cmp .ne x5 (0 : Int32) = true then
    q_rcv h4 (.ref l0) 11 (q_rV (call 205 [.ref l0] h4) q_t0 fun h6 =>
    q_run qm_X11_trust call 33 [.ref l0, .int l1, .int (-1 : Int32), .int (0 : Int32), .int (0 : Int32)] [] h6)
  else
    some (.inl (some (.int (0 : Int32))), h4)) := by
  refine (q_cut_eq _ _ [0, 33, 65, 80, 85] 200 _ _ _ _).trans ?_
  rfl
set_option maxRecDepth 20000 in
theorem k_X11_trust_33 (call : Nat → List Value → qH → qR) (l0 : Nat) (l1 : Int32) (l2 : Int32) (l3 : Int32) (l4 : Int32) (h : qH) : q_run qm_X11_trust call 33 [.ref l0, .int l1, .int l2, .int l3, .int l4] [] h =
  q_gI h (.ref l0) 11 24 fun x1 =>
  if q_cmp .ge l4 x1 = true then
    if q_cmp .eq l1 (0 : Int32) = true then
      q_run qm_X11_trust call 80 [.ref l0, .int l1, .int l2, .int l3, .int l4] [] h
    else
      if q_cmp .ne l2 (-1 : Int32) = true then
        q_run qm_X11_trust call 85 [.ref l0, .int l1, .int l2, .int l3, .int l4] [.int l3] h
      else
        q_run qm_X11_trust call 80 [.ref l0, .int l1, .int l2, .int l3, .int l4] [] h
  else
    q_rcv h (.ref l0) 11 (q_rI (call 206 [.ref l0, .int l4] h) q_t0 fun x3 h2 =>
    if q_cmp .gt x3 l3 = true then
      q_rcv h2 (.ref l0) 11 (q_rI (call 206 [.ref l0, .int l4] h2) q_t0 fun x5 h4 =>
      q_run qm_X11_trust call 65 [.ref l0, .int l1, .int l4, .int x5, .int l4] [] h4)
    else
      q_run qm_X11_trust call 65 [.ref l0, .int l1, .int l2, .int l3, .int l4] [] h2) := by
  refine (q_cut_eq _ _ [0, 33, 65, 80, 85] 200 _ _ _ _).trans ?_
  rfl
set_option maxRecDepth 20000 in
theorem k_X11_trust_65 (call : Nat → List Value → qH → qR) (l0 : Nat) (l1 : Int32) (l2 : Int32) (l3 : Int32) (l4 : Int32) (h : qH) : q_run qm_X11_trust call 65 [.ref l0, .int l1, .int l2, .int l3, .int l4] [] h =
  q_run qm_X11_trust call 33 [.ref l0, .int l1, .int l2, .int l3, .int (l4 + (1 : Int32))] [] h := by
  refine (q_cut_eq _ _ [0, 33, 65, 80, 85] 200 _ _ _ _).trans ?_
  rfl
set_option maxRecDepth 20000 in
theorem k_X11_trust_80 (call : Nat → List Value → qH → qR) (l0 : Value) (l1 : Value) (l2 : Int32) (l3 : Value) (l4 : Value) (h : qH) : q_run qm_X11_trust call 80 [l0, l1, .int l2, l3, l4] [] h =
  q_run qm_X11_trust call 85 [l0, l1, .int l2, l3, l4] [.int l2] h := by
  refine (q_cut_eq _ _ [0, 33, 65, 80, 85] 200 _ _ _ _).trans ?_
  rfl
set_option maxRecDepth 20000 in
theorem k_X11_trust_85 (call : Nat → List Value → qH → qR) (l0 : Value) (l1 : Value) (l2 : Value) (l3 : Value) (l4 : Value) (s0 : Int32) (h : qH) : q_run qm_X11_trust call 85 [l0, l1, l2, l3, l4] [.int s0] h =
  some (.inl (some (.int s0)), h) := by
  refine (q_cut_eq _ _ [0, 33, 65, 80, 85] 200 _ _ _ _).trans ?_
  rfl
set_option maxRecDepth 20000 in
theorem k_X11_richest_0 (call : Nat → List Value → qH → qR) (l0 : Nat) (l1 : Int32) (h : qH) : q_run qm_X11_richest call 0 [.ref l0, .int l1, q_junk, q_junk] [] h =
  q_pV h (.ref l0) 11 0 (.int (0 : Int32)) fun h1 =>
  q_rI (call 165 [.int l1, .int (0 : Int32), .int (1 : Int32)] h1) q_t0 fun x3 h2 =>
  q_rcv h2 (.ref l0) 11 (q_rI (call 164 [.ref l0, .int x3, .int (1 : Int32), .int (1 : Int32)] h2) q_t0 fun x5 h4 =>
  if q_cmp .ne x5 (0 : Int32) = true then
    q_run qm_X11_richest call 26 [.ref l0, .int l1, .int (-1 : Int32), .int (0 : Int32)] [] h4
  else
    some (.inl (some (.int (0 : Int32))), h4)) := by
  refine (q_cut_eq _ _ [0, 26, 60, 62, 77, 90] 200 _ _ _ _).trans ?_
  rfl
set_option maxRecDepth 20000 in
theorem k_X11_richest_26 (call : Nat → List Value → qH → qR) (l0 : Nat) (l1 : Int32) (l2 : Int32) (l3 : Int32) (h : qH) : q_run qm_X11_richest call 26 [.ref l0, .int l1, .int l2, .int l3] [] h =
  q_gI h (.ref l0) 11 21 fun x1 =>
  if q_cmp .ge l3 x1 = true then
    if q_cmp .eq l1 (0 : Int32) = true then
      q_run qm_X11_richest call 77 [.ref l0, .int l1, .int l2, .int l3] [] h
    else
      if q_cmp .ne l2 (-1 : Int32) = true then
        q_gR h (.ref l0) 11 42 fun r2 =>
        q_ald h (.ref r2) 0 ((40 : Int32) + l2) fun x3 =>
        q_run qm_X11_richest call 90 [.ref l0, .int l1, .int l2, .int l3] [.int x3] h
      else
        q_run qm_X11_richest call 77 [.ref l0, .int l1, .int l2, .int l3] [] h
  else
    if q_cmp .eq l2 (-1 : Int32) = true then
      q_run qm_X11_richest call 60 [.ref l0, .int l1, .int l2, .int l3] [] h
    else
      q_gR h (.ref l0) 11 42 fun r4 =>
      q_ald h (.ref r4) 0 ((40 : Int32) + l3) fun x5 =>
      q_gR h (.ref l0) 11 42 fun r6 =>
      q_ald h (.ref r6) 0 ((40 : Int32) + l2) fun x7 =>
      if q_cmp .le x5 x7 = true then
        q_run qm_X11_richest call 62 [.ref l0, .int l1, .int l2, .int l3] [] h
      else
        q_run qm_X11_richest call 60 [.ref l0, .int l1, .int l2, .int l3] [] h := by
  refine (q_cut_eq _ _ [0, 26, 60, 62, 77, 90] 200 _ _ _ _).trans ?_
  rfl
set_option maxRecDepth 20000 in
theorem k_X11_richest_60 (call : Nat → List Value → qH → qR) (l0 : Nat) (l1 : Int32) (l2 : Value) (l3 : Int32) (h : qH) : q_run qm_X11_richest call 60 [.ref l0, .int l1, l2, .int l3] [] h =
  q_run qm_X11_richest call 62 [.ref l0, .int l1, .int l3, .int l3] [] h := by
  refine (q_cut_eq _ _ [0, 26, 60, 62, 77, 90] 200 _ _ _ _).trans ?_
  rfl
set_option maxRecDepth 20000 in
theorem k_X11_richest_62 (call : Nat → List Value → qH → qR) (l0 : Nat) (l1 : Int32) (l2 : Int32) (l3 : Int32) (h : qH) : q_run qm_X11_richest call 62 [.ref l0, .int l1, .int l2, .int l3] [] h =
  q_run qm_X11_richest call 26 [.ref l0, .int l1, .int l2, .int (l3 + (1 : Int32))] [] h := by
  refine (q_cut_eq _ _ [0, 26, 60, 62, 77, 90] 200 _ _ _ _).trans ?_
  rfl
set_option maxRecDepth 20000 in
theorem k_X11_richest_77 (call : Nat → List Value → qH → qR) (l0 : Value) (l1 : Value) (l2 : Int32) (l3 : Value) (h : qH) : q_run qm_X11_richest call 77 [l0, l1, .int l2, l3] [] h =
  q_run qm_X11_richest call 90 [l0, l1, .int l2, l3] [.int l2] h := by
  refine (q_cut_eq _ _ [0, 26, 60, 62, 77, 90] 200 _ _ _ _).trans ?_
  rfl
set_option maxRecDepth 20000 in
theorem k_X11_richest_90 (call : Nat → List Value → qH → qR) (l0 : Value) (l1 : Value) (l2 : Value) (l3 : Value) (s0 : Int32) (h : qH) : q_run qm_X11_richest call 90 [l0, l1, l2, l3] [.int s0] h =
  some (.inl (some (.int s0)), h) := by
  refine (q_cut_eq _ _ [0, 26, 60, 62, 77, 90] 200 _ _ _ _).trans ?_
  rfl
set_option maxRecDepth 20000 in
theorem k_X11_ahead_0 (call : Nat → List Value → qH → qR) (l0 : Nat) (l1 : Int32) (l2 : Int32) (h : qH) : q_run qm_X11_ahead call 0 [.ref l0, .int l1, .int l2, q_junk] [] h =
  q_pV h (.ref l0) 11 0 (.int (0 : Int32)) fun h1 =>
  q_rcv h1 (.ref l0) 11 (q_rI (call 229 [.ref l0, .int l1, .int (1 : Int32)] h1) q_t0 fun x3 h2 =>
  if q_cmp .eq x3 (0 : Int32) = true then
    q_run qm_X11_ahead call 30 [.ref l0, .int l1, .int l2, q_junk] [] h2
  else
    q_rI (call 165 [.int l2, .int (0 : Int32), .int (100 : Int32)] h2) q_t0 fun x5 h4 =>
    q_rcv h4 (.ref l0) 11 (q_rI (call 164 [.ref l0, .int x5, .int (2 : Int32), .int (1 : Int32)] h4) q_t0 fun x7 h6 =>
    if q_cmp .ne x7 (0 : Int32) = true then
      q_rcv h6 (.ref l0) 11 (q_rV (call 205 [.ref l0] h6) q_t0 fun h8 =>
      q_run qm_X11_ahead call 38 [.ref l0, .int l1, .int l2, .int (0 : Int32)] [] h8)
    else
      q_run qm_X11_ahead call 30 [.ref l0, .int l1, .int l2, q_junk] [] h6)) := by
  refine (q_cut_eq _ _ [0, 30, 38] 200 _ _ _ _).trans ?_
  rfl
set_option maxRecDepth 20000 in
theorem k_X11_ahead_30 (call : Nat → List Value → qH → qR) (l0 : Value) (l1 : Value) (l2 : Value) (l3 : Value) (h : qH) : q_run qm_X11_ahead call 30 [l0, l1, l2, l3] [] h =
  some (.inl (some (.int (0 : Int32))), h) := by
  refine (q_cut_eq _ _ [0, 30, 38] 200 _ _ _ _).trans ?_
  rfl
set_option maxRecDepth 20000 in
theorem k_X11_ahead_38 (call : Nat → List Value → qH → qR) (l0 : Nat) (l1 : Int32) (l2 : Int32) (l3 : Int32) (h : qH) : q_run qm_X11_ahead call 38 [.ref l0, .int l1, .int l2, .int l3] [] h =
  if q_cmp .ge l3 l2 = true then
    q_gR h (.ref l0) 11 43 fun r1 =>
    q_ald h (.ref r1) 0 ((40 : Int32) + l1) fun x2 =>
    some (.inl (some (.int x2)), h)
  else
    q_rcv h (.ref l0) 11 (q_rV (call 221 [.ref l0] h) q_t0 fun h3 =>
    q_run qm_X11_ahead call 38 [.ref l0, .int l1, .int l2, .int (l3 + (1 : Int32))] [] h3) := by
  refine (q_cut_eq _ _ [0, 30, 38] 200 _ _ _ _).trans ?_
  rfl
set_option maxRecDepth 20000 in
theorem k_X11_draws_0 (call : Nat → List Value → qH → qR) (l0 : Nat) (l1 : Int32) (h : qH) : q_run qm_X11_draws call 0 [.ref l0, .int l1] [] h =
  q_gI h (.ref l0) 11 58 fun x1 =>
  q_pV h (.ref l0) 11 58 (.int ((x1 * (1103515245 : Int32)) + (12345 : Int32))) fun h2 =>
  q_gI h2 (.ref l0) 11 58 fun x3 =>
  if l1 = 0 then none else
  some (.inl (some (.int (((x3 >>> ((16 : Int32) &&& 31)) &&& (32767 : Int32)) - ((x3 >>> ((16 : Int32) &&& 31)) &&& (32767 : Int32)) / l1 * l1))), h2) := by
  refine (q_cut_eq _ _ [0] 200 _ _ _ _).trans ?_
  rfl
set_option maxRecDepth 20000 in
theorem k_X11_seasonGoes_0 (call : Nat → List Value → qH → qR) (l0 : Nat) (l1 : Int32) (l2 : Int32) (l3 : Int32) (h : qH) : q_run qm_X11_seasonGoes call 0 [.ref l0, .int l1, .int l2, .int l3, q_junk, q_junk, q_junk] [] h =
  q_rcv h (.ref l0) 11 (q_rV (call 205 [.ref l0] h) q_t0 fun h1 =>
  q_pV h1 (.ref l0) 11 58 (.int l1) fun h3 =>
  q_pV h3 (.ref l0) 11 59 (.int (0 : Int32)) fun h4 =>
  q_run qm_X11_seasonGoes call 17 [.ref l0, .int l1, .int l2, .int l3, .int (1 : Int32), q_junk, q_junk] [] h4) := by
  refine (q_cut_eq _ _ [0, 17, 76, 95, 106, 112] 200 _ _ _ _).trans ?_
  rfl
set_option maxRecDepth 20000 in
theorem k_X11_seasonGoes_17 (call : Nat → List Value → qH → qR) (l0 : Nat) (l1 : Value) (l2 : Int32) (l3 : Int32) (l4 : Int32) (l5 : Value) (l6 : Value) (h : qH) : q_run qm_X11_seasonGoes call 17 [.ref l0, l1, .int l2, .int l3, .int l4, l5, l6] [] h =
  if q_cmp .gt l4 l3 = true then
    q_run qm_X11_seasonGoes call 112 [.ref l0, l1, .int l2, .int l3, .int l4, l5, l6] [] h
  else
    q_gI h (.ref l0) 11 22 fun x1 =>
    if q_cmp .le x1 (0 : Int32) = true then
      q_run qm_X11_seasonGoes call 112 [.ref l0, l1, .int l2, .int l3, .int l4, l5, l6] [] h
    else
      q_gI h (.ref l0) 11 22 fun x2 =>
      q_rcv h (.ref l0) 11 (q_rI (call 269 [.ref l0, .int x2] h) q_t0 fun x4 h3 =>
      q_rcv h3 (.ref l0) 11 (q_rI (call 269 [.ref l0, .int (9 : Int32)] h3) q_t0 fun x6 h5 =>
      q_gI h5 (.ref l0) 11 59 fun x7 =>
      q_rcv h5 (.ref l0) 11 (q_rI (call 269 [.ref l0, .int (2 : Int32)] h5) q_t0 fun x9 h8 =>
      q_rcv h8 (.ref l0) 11 (q_rI (call 218 [.ref l0, .int x4, .int (x6 + (1 : Int32)), .int x9] h8) q_t0 fun x11 h10 =>
      if q_cmp .eq x11 (0 : Int32) = true then
        q_run qm_X11_seasonGoes call 76 [.ref l0, l1, .int l2, .int l3, .int l4, .int x4, .int (x6 + (1 : Int32))] [.int (0 : Int32), .int x7, .ref l0] h10
      else
        q_run qm_X11_seasonGoes call 76 [.ref l0, l1, .int l2, .int l3, .int l4, .int x4, .int (x6 + (1 : Int32))] [.int (1 : Int32), .int x7, .ref l0] h10)))) := by
  refine (q_cut_eq _ _ [0, 17, 76, 95, 106, 112] 200 _ _ _ _).trans ?_
  rfl
set_option maxRecDepth 20000 in
theorem k_X11_seasonGoes_76 (call : Nat → List Value → qH → qR) (l0 : Nat) (l1 : Value) (l2 : Int32) (l3 : Int32) (l4 : Int32) (l5 : Value) (l6 : Value) (s0 : Nat) (s1 : Int32) (s2 : Int32) (h : qH) : q_run qm_X11_seasonGoes call 76 [.ref l0, l1, .int l2, .int l3, .int l4, l5, l6] [.int s2, .int s1, .ref s0] h =
  q_pV h (.ref s0) 11 59 (.int (s1 + s2)) fun h1 =>
  q_rcv h1 (.ref l0) 11 (q_rI (call 269 [.ref l0, .int (16 : Int32)] h1) q_t0 fun x3 h2 =>
  if q_cmp .ge x3 l2 = true then
    q_run qm_X11_seasonGoes call 95 [.ref l0, l1, .int l2, .int l3, .int l4, l5, l6] [] h2
  else
    q_rcv h2 (.ref l0) 11 (q_rI (call 220 [.ref l0] h2) q_t0 fun x5 h4 =>
    q_run qm_X11_seasonGoes call 95 [.ref l0, l1, .int l2, .int l3, .int l4, l5, l6] [] h4)) := by
  refine (q_cut_eq _ _ [0, 17, 76, 95, 106, 112] 200 _ _ _ _).trans ?_
  rfl
set_option maxRecDepth 20000 in
theorem k_X11_seasonGoes_95 (call : Nat → List Value → qH → qR) (l0 : Nat) (l1 : Value) (l2 : Int32) (l3 : Int32) (l4 : Int32) (l5 : Value) (l6 : Value) (h : qH) : q_run qm_X11_seasonGoes call 95 [.ref l0, l1, .int l2, .int l3, .int l4, l5, l6] [] h =
  if q_cmp .ne (l4 - l4 / (4 : Int32) * (4 : Int32)) (0 : Int32) = true then
    q_run qm_X11_seasonGoes call 106 [.ref l0, l1, .int l2, .int l3, .int l4, l5, l6] [] h
  else
    q_rcv h (.ref l0) 11 (q_rV (call 221 [.ref l0] h) q_t0 fun h1 =>
    q_run qm_X11_seasonGoes call 106 [.ref l0, l1, .int l2, .int l3, .int l4, l5, l6] [] h1) := by
  refine (q_cut_eq _ _ [0, 17, 76, 95, 106, 112] 200 _ _ _ _).trans ?_
  rfl
set_option maxRecDepth 20000 in
theorem k_X11_seasonGoes_106 (call : Nat → List Value → qH → qR) (l0 : Nat) (l1 : Value) (l2 : Int32) (l3 : Int32) (l4 : Int32) (l5 : Value) (l6 : Value) (h : qH) : q_run qm_X11_seasonGoes call 106 [.ref l0, l1, .int l2, .int l3, .int l4, l5, l6] [] h =
  q_run qm_X11_seasonGoes call 17 [.ref l0, l1, .int l2, .int l3, .int (l4 + (1 : Int32)), l5, l6] [] h := by
  refine (q_cut_eq _ _ [0, 17, 76, 95, 106, 112] 200 _ _ _ _).trans ?_
  rfl
set_option maxRecDepth 20000 in
theorem k_X11_seasonGoes_112 (call : Nat → List Value → qH → qR) (l0 : Value) (l1 : Value) (l2 : Value) (l3 : Value) (l4 : Value) (l5 : Value) (l6 : Value) (h : qH) : q_run qm_X11_seasonGoes call 112 [l0, l1, l2, l3, l4, l5, l6] [] h =
  some (.inl none, h) := by
  refine (q_cut_eq _ _ [0, 17, 76, 95, 106, 112] 200 _ _ _ _).trans ?_
  rfl
set_option maxRecDepth 20000 in
theorem k_X11_manyOf_0 (call : Nat → List Value → qH → qR) (l0 : Nat) (l1 : Int32) (h : qH) : q_run qm_X11_manyOf call 0 [.ref l0, .int l1, q_junk, q_junk] [] h =
  q_run qm_X11_manyOf call 4 [.ref l0, .int l1, .int (0 : Int32), .int (0 : Int32)] [] h := by
  refine (q_cut_eq _ _ [0, 4, 30] 200 _ _ _ _).trans ?_
  rfl
set_option maxRecDepth 20000 in
theorem k_X11_manyOf_4 (call : Nat → List Value → qH → qR) (l0 : Nat) (l1 : Int32) (l2 : Int32) (l3 : Int32) (h : qH) : q_run qm_X11_manyOf call 4 [.ref l0, .int l1, .int l2, .int l3] [] h =
  q_gI h (.ref l0) 11 22 fun x1 =>
  if q_cmp .ge l3 x1 = true then
    some (.inl (some (.int l2)), h)
  else
    q_gR h (.ref l0) 11 43 fun r2 =>
    q_ald h (.ref r2) 0 ((0 : Int32) + l3) fun x3 =>
    if q_cmp .ne x3 l1 = true then
      q_run qm_X11_manyOf call 30 [.ref l0, .int l1, .int l2, .int l3] [.int (0 : Int32), .int l2] h
    else
      q_run qm_X11_manyOf call 30 [.ref l0, .int l1, .int l2, .int l3] [.int (1 : Int32), .int l2] h := by
  refine (q_cut_eq _ _ [0, 4, 30] 200 _ _ _ _).trans ?_
  rfl
set_option maxRecDepth 20000 in
theorem k_X11_manyOf_30 (call : Nat → List Value → qH → qR) (l0 : Nat) (l1 : Int32) (l2 : Value) (l3 : Int32) (s0 : Int32) (s1 : Int32) (h : qH) : q_run qm_X11_manyOf call 30 [.ref l0, .int l1, l2, .int l3] [.int s1, .int s0] h =
  q_run qm_X11_manyOf call 4 [.ref l0, .int l1, .int (s0 + s1), .int (l3 + (1 : Int32))] [] h := by
  refine (q_cut_eq _ _ [0, 4, 30] 200 _ _ _ _).trans ?_
  rfl
set_option maxRecDepth 20000 in
theorem k_X11_isSeason_0 (call : Nat → List Value → qH → qR) (l0 : Int32) (l1 : Int32) (h : qH) : q_run qm_X11_isSeason call 0 [.int l0, .int l1] [] h =
  if q_cmp .lt l0 (0 : Int32) = true then
    q_run qm_X11_isSeason call 25 [.int l0, .int l1] [] h
  else
    if q_cmp .gt l0 (16 : Int32) = true then
      q_run qm_X11_isSeason call 25 [.int l0, .int l1] [] h
    else
      if q_cmp .lt l1 (1 : Int32) = true then
        q_run qm_X11_isSeason call 25 [.int l0, .int l1] [] h
      else
        if q_cmp .gt l1 (96 : Int32) = true then
          q_run qm_X11_isSeason call 25 [.int l0, .int l1] [] h
        else
          q_run qm_X11_isSeason call 26 [.int l0, .int l1] [.int (1 : Int32)] h := by
  refine (q_cut_eq _ _ [0, 25, 26] 200 _ _ _ _).trans ?_
  rfl
set_option maxRecDepth 20000 in
theorem k_X11_isSeason_25 (call : Nat → List Value → qH → qR) (l0 : Value) (l1 : Value) (h : qH) : q_run qm_X11_isSeason call 25 [l0, l1] [] h =
  q_run qm_X11_isSeason call 26 [l0, l1] [.int (0 : Int32)] h := by
  refine (q_cut_eq _ _ [0, 25, 26] 200 _ _ _ _).trans ?_
  rfl
set_option maxRecDepth 20000 in
theorem k_X11_isSeason_26 (call : Nat → List Value → qH → qR) (l0 : Value) (l1 : Value) (s0 : Int32) (h : qH) : q_run qm_X11_isSeason call 26 [l0, l1] [.int s0] h =
  q_boo true s0 fun z => some (.inl (some (.int z)), h) := by
  refine (q_cut_eq _ _ [0, 25, 26] 200 _ _ _ _).trans ?_
  rfl
set_option maxRecDepth 20000 in
theorem k_X11_season_0 (call : Nat → List Value → qH → qR) (l0 : Nat) (l1 : Int32) (l2 : Int32) (l3 : Int32) (l4 : Int32) (h : qH) : q_run qm_X11_season call 0 [.ref l0, .int l1, .int l2, .int l3, .int l4, q_junk, q_junk] [] h =
  q_pV h (.ref l0) 11 0 (.int (0 : Int32)) fun h1 =>
  q_rI (call 272 [.int l2, .int l3] h1) q_t0 fun x3 h2 =>
  if q_cmp .eq x3 (0 : Int32) = true then
    q_run qm_X11_season call 28 [.ref l0, .int l1, .int l2, .int l3, .int l4, q_junk, q_junk] [.ref l0] h2
  else
    q_rI (call 165 [.int l4, .int (0 : Int32), .int (3 : Int32)] h2) q_t0 fun x5 h4 =>
    if q_cmp .eq x5 (0 : Int32) = true then
      q_run qm_X11_season call 28 [.ref l0, .int l1, .int l2, .int l3, .int l4, q_junk, q_junk] [.ref l0] h4
    else
      q_run qm_X11_season call 29 [.ref l0, .int l1, .int l2, .int l3, .int l4, q_junk, q_junk] [.int (1 : Int32), .ref l0] h4 := by
  refine (q_cut_eq _ _ [0, 28, 29, 65, 86] 200 _ _ _ _).trans ?_
  rfl
set_option maxRecDepth 20000 in
theorem k_X11_season_28 (call : Nat → List Value → qH → qR) (l0 : Nat) (l1 : Int32) (l2 : Int32) (l3 : Int32) (l4 : Int32) (l5 : Value) (l6 : Value) (s0 : Nat) (h : qH) : q_run qm_X11_season call 28 [.ref l0, .int l1, .int l2, .int l3, .int l4, l5, l6] [.ref s0] h =
  q_run qm_X11_season call 29 [.ref l0, .int l1, .int l2, .int l3, .int l4, l5, l6] [.int (0 : Int32), .ref s0] h := by
  refine (q_cut_eq _ _ [0, 28, 29, 65, 86] 200 _ _ _ _).trans ?_
  rfl
set_option maxRecDepth 20000 in
theorem k_X11_season_29 (call : Nat → List Value → qH → qR) (l0 : Nat) (l1 : Int32) (l2 : Int32) (l3 : Int32) (l4 : Int32) (l5 : Value) (l6 : Value) (s0 : Nat) (s1 : Int32) (h : qH) : q_run qm_X11_season call 29 [.ref l0, .int l1, .int l2, .int l3, .int l4, l5, l6] [.int s1, .ref s0] h =
  q_rcv h (.ref s0) 11 (q_rI (call 164 [.ref s0, .int s1, .int (1 : Int32), .int (1 : Int32)] h) q_t0 fun x2 h1 =>
  if q_cmp .ne x2 (0 : Int32) = true then
    q_rcv h1 (.ref l0) 11 (q_rV (call 270 [.ref l0, .int l1, .int l2, .int l3] h1) q_t0 fun h3 =>
    if q_cmp .ge l4 (2 : Int32) = true then
      if q_cmp .ne l4 (2 : Int32) = true then
        q_run qm_X11_season call 86 [.ref l0, .int l1, .int l2, .int l3, .int l4, .int (0 : Int32), .int (0 : Int32)] [] h3
      else
        q_gI h3 (.ref l0) 11 59 fun x5 =>
        some (.inl (some (.int x5)), h3)
    else
      if q_cmp .ne l4 (0 : Int32) = true then
        q_run qm_X11_season call 65 [.ref l0, .int l1, .int l2, .int l3, .int l4, l5, l6] [.int (-2 : Int32), .ref l0] h3
      else
        q_run qm_X11_season call 65 [.ref l0, .int l1, .int l2, .int l3, .int l4, l5, l6] [.int (-3 : Int32), .ref l0] h3)
  else
    some (.inl (some (.int (0 : Int32))), h1)) := by
  refine (q_cut_eq _ _ [0, 28, 29, 65, 86] 200 _ _ _ _).trans ?_
  rfl
set_option maxRecDepth 20000 in
theorem k_X11_season_65 (call : Nat → List Value → qH → qR) (l0 : Value) (l1 : Value) (l2 : Value) (l3 : Value) (l4 : Value) (l5 : Value) (l6 : Value) (s0 : Nat) (s1 : Int32) (h : qH) : q_run qm_X11_season call 65 [l0, l1, l2, l3, l4, l5, l6] [.int s1, .ref s0] h =
  q_rcv h (.ref s0) 11 (q_rI (call 271 [.ref s0, .int s1] h) q_t0 fun x2 h1 =>
  some (.inl (some (.int x2)), h1)) := by
  refine (q_cut_eq _ _ [0, 28, 29, 65, 86] 200 _ _ _ _).trans ?_
  rfl
set_option maxRecDepth 20000 in
theorem k_X11_season_86 (call : Nat → List Value → qH → qR) (l0 : Nat) (l1 : Value) (l2 : Value) (l3 : Value) (l4 : Value) (l5 : Int32) (l6 : Int32) (h : qH) : q_run qm_X11_season call 86 [.ref l0, l1, l2, l3, l4, .int l5, .int l6] [] h =
  q_gI h (.ref l0) 11 21 fun x1 =>
  if q_cmp .ge l6 x1 = true then
    some (.inl (some (.int l5)), h)
  else
    q_gR h (.ref l0) 11 43 fun r2 =>
    q_ald h (.ref r2) 0 ((40 : Int32) + l6) fun x3 =>
    q_run qm_X11_season call 86 [.ref l0, l1, l2, l3, l4, .int (l5 + x3), .int (l6 + (1 : Int32))] [] h := by
  refine (q_cut_eq _ _ [0, 28, 29, 65, 86] 200 _ _ _ _).trans ?_
  rfl
set_option maxRecDepth 20000 in
theorem k_X11_span_0 (call : Nat → List Value → qH → qR) (l0 : Nat) (l1 : Int32) (l2 : Int32) (l3 : Int32) (l4 : Int32) (l5 : Int32) (h : qH) : q_run qm_X11_span call 0 [.ref l0, .int l1, .int l2, .int l3, .int l4, .int l5, q_junk, q_junk, q_junk, q_junk, q_junk] [] h =
  q_pV h (.ref l0) 11 0 (.int (0 : Int32)) fun h1 =>
  q_rI (call 165 [.int l2, .int (1 : Int32), .int (20 : Int32)] h1) q_t0 fun x3 h2 =>
  if q_cmp .eq x3 (0 : Int32) = true then
    q_run qm_X11_span call 39 [.ref l0, .int l1, .int l2, .int l3, .int l4, .int l5, q_junk, q_junk, q_junk, q_junk, q_junk] [.ref l0] h2
  else
    q_rI (call 272 [.int l3, .int l4] h2) q_t0 fun x5 h4 =>
    if q_cmp .eq x5 (0 : Int32) = true then
      q_run qm_X11_span call 39 [.ref l0, .int l1, .int l2, .int l3, .int l4, .int l5, q_junk, q_junk, q_junk, q_junk, q_junk] [.ref l0] h4
    else
      q_rI (call 165 [.int l5, .int (0 : Int32), .int (2 : Int32)] h4) q_t0 fun x7 h6 =>
      if q_cmp .eq x7 (0 : Int32) = true then
        q_run qm_X11_span call 39 [.ref l0, .int l1, .int l2, .int l3, .int l4, .int l5, q_junk, q_junk, q_junk, q_junk, q_junk] [.ref l0] h6
      else
        q_run qm_X11_span call 40 [.ref l0, .int l1, .int l2, .int l3, .int l4, .int l5, q_junk, q_junk, q_junk, q_junk, q_junk] [.int (1 : Int32), .ref l0] h6 := by
  refine (q_cut_eq _ _ [0, 39, 40, 62, 100, 107, 123, 141, 173] 200 _ _ _ _).trans ?_
  rfl
set_option maxRecDepth 20000 in
theorem k_X11_span_39 (call : Nat → List Value → qH → qR) (l0 : Nat) (l1 : Int32) (l2 : Int32) (l3 : Int32) (l4 : Int32) (l5 : Int32) (l6 : Value) (l7 : Value) (l8 : Value) (l9 : Value) (l10 : Value) (s0 : Nat) (h : qH) : q_run qm_X11_span call 39 [.ref l0, .int l1, .int l2, .int l3, .int l4, .int l5, l6, l7, l8, l9, l10] [.ref s0] h =
  q_run qm_X11_span call 40 [.ref l0, .int l1, .int l2, .int l3, .int l4, .int l5, l6, l7, l8, l9, l10] [.int (0 : Int32), .ref s0] h := by
  refine (q_cut_eq _ _ [0, 39, 40, 62, 100, 107, 123, 141, 173] 200 _ _ _ _).trans ?_
  rfl
set_option maxRecDepth 20000 in
theorem k_X11_span_40 (call : Nat → List Value → qH → qR) (l0 : Nat) (l1 : Int32) (l2 : Int32) (l3 : Int32) (l4 : Int32) (l5 : Int32) (l6 : Value) (l7 : Value) (l8 : Value) (l9 : Value) (l10 : Value) (s0 : Nat) (s1 : Int32) (h : qH) : q_run qm_X11_span call 40 [.ref l0, .int l1, .int l2, .int l3, .int l4, .int l5, l6, l7, l8, l9, l10] [.int s1, .ref s0] h =
  q_rcv h (.ref s0) 11 (q_rI (call 164 [.ref s0, .int s1, .int (1 : Int32), .int (1 : Int32)] h) q_t0 fun x2 h1 =>
  if q_cmp .ne x2 (0 : Int32) = true then
    q_run qm_X11_span call 62 [.ref l0, .int l1, .int l2, .int l3, .int l4, .int l5, .int (-1 : Int32), .int (0 : Int32), .int (0 : Int32), .int (0 : Int32), l10] [] h1
  else
    some (.inl (some (.int (0 : Int32))), h1)) := by
  refine (q_cut_eq _ _ [0, 39, 40, 62, 100, 107, 123, 141, 173] 200 _ _ _ _).trans ?_
  rfl
set_option maxRecDepth 20000 in
theorem k_X11_span_62 (call : Nat → List Value → qH → qR) (l0 : Nat) (l1 : Int32) (l2 : Int32) (l3 : Int32) (l4 : Int32) (l5 : Int32) (l6 : Int32) (l7 : Int32) (l8 : Int32) (l9 : Int32) (l10 : Value) (h : qH) : q_run qm_X11_span call 62 [.ref l0, .int l1, .int l2, .int l3, .int l4, .int l5, .int l6, .int l7, .int l8, .int l9, l10] [] h =
  if q_cmp .ge l9 l2 = true then
    if q_cmp .ne l5 (0 : Int32) = true then
      if q_cmp .ne l5 (1 : Int32) = true then
        q_run qm_X11_span call 173 [.ref l0, .int l1, .int l2, .int l3, .int l4, .int l5, .int l6, .int l7, .int l8, .int l9, l10] [.int l8] h
      else
        q_run qm_X11_span call 173 [.ref l0, .int l1, .int l2, .int l3, .int l4, .int l5, .int l6, .int l7, .int l8, .int l9, l10] [.int l7] h
    else
      q_run qm_X11_span call 173 [.ref l0, .int l1, .int l2, .int l3, .int l4, .int l5, .int l6, .int l7, .int l8, .int l9, l10] [.int l6] h
  else
    q_rcv h (.ref l0) 11 (q_rV (call 270 [.ref l0, .int (l1 + l9), .int l3, .int l4] h) q_t0 fun h1 =>
    q_rcv h1 (.ref l0) 11 (q_rI (call 271 [.ref l0, .int (-3 : Int32)] h1) q_t0 fun x4 h3 =>
    if q_cmp .eq l6 (-1 : Int32) = true then
      q_run qm_X11_span call 100 [.ref l0, .int l1, .int l2, .int l3, .int l4, .int l5, .int l6, .int l7, .int l8, .int l9, .int x4] [] h3
    else
      if q_cmp .ge x4 l6 = true then
        q_run qm_X11_span call 107 [.ref l0, .int l1, .int l2, .int l3, .int l4, .int l5, .int l6, .int l7, .int l8, .int l9, .int x4] [.int l6] h3
      else
        q_run qm_X11_span call 100 [.ref l0, .int l1, .int l2, .int l3, .int l4, .int l5, .int l6, .int l7, .int l8, .int l9, .int x4] [] h3)) := by
  refine (q_cut_eq _ _ [0, 39, 40, 62, 100, 107, 123, 141, 173] 200 _ _ _ _).trans ?_
  rfl
set_option maxRecDepth 20000 in
theorem k_X11_span_100 (call : Nat → List Value → qH → qR) (l0 : Nat) (l1 : Int32) (l2 : Int32) (l3 : Int32) (l4 : Int32) (l5 : Int32) (l6 : Value) (l7 : Int32) (l8 : Int32) (l9 : Int32) (l10 : Int32) (h : qH) : q_run qm_X11_span call 100 [.ref l0, .int l1, .int l2, .int l3, .int l4, .int l5, l6, .int l7, .int l8, .int l9, .int l10] [] h =
  q_run qm_X11_span call 107 [.ref l0, .int l1, .int l2, .int l3, .int l4, .int l5, l6, .int l7, .int l8, .int l9, .int l10] [.int l10] h := by
  refine (q_cut_eq _ _ [0, 39, 40, 62, 100, 107, 123, 141, 173] 200 _ _ _ _).trans ?_
  rfl
set_option maxRecDepth 20000 in
theorem k_X11_span_107 (call : Nat → List Value → qH → qR) (l0 : Nat) (l1 : Int32) (l2 : Int32) (l3 : Int32) (l4 : Int32) (l5 : Int32) (l6 : Value) (l7 : Int32) (l8 : Int32) (l9 : Int32) (l10 : Int32) (s0 : Int32) (h : qH) : q_run qm_X11_span call 107 [.ref l0, .int l1, .int l2, .int l3, .int l4, .int l5, l6, .int l7, .int l8, .int l9, .int l10] [.int s0] h =
  if q_cmp .le l10 l7 = true then
    q_run qm_X11_span call 123 [.ref l0, .int l1, .int l2, .int l3, .int l4, .int l5, .int s0, .int l7, .int l8, .int l9, .int l10] [.int l7] h
  else
    q_run qm_X11_span call 123 [.ref l0, .int l1, .int l2, .int l3, .int l4, .int l5, .int s0, .int l7, .int l8, .int l9, .int l10] [.int l10] h := by
  refine (q_cut_eq _ _ [0, 39, 40, 62, 100, 107, 123, 141, 173] 200 _ _ _ _).trans ?_
  rfl
set_option maxRecDepth 20000 in
theorem k_X11_span_123 (call : Nat → List Value → qH → qR) (l0 : Nat) (l1 : Int32) (l2 : Int32) (l3 : Int32) (l4 : Int32) (l5 : Int32) (l6 : Int32) (l7 : Value) (l8 : Int32) (l9 : Int32) (l10 : Value) (s0 : Int32) (h : qH) : q_run qm_X11_span call 123 [.ref l0, .int l1, .int l2, .int l3, .int l4, .int l5, .int l6, l7, .int l8, .int l9, l10] [.int s0] h =
  q_rcv h (.ref l0) 11 (q_rI (call 271 [.ref l0, .int (-2 : Int32)] h) q_t0 fun x2 h1 =>
  if q_cmp .ne x2 (0 : Int32) = true then
    q_run qm_X11_span call 141 [.ref l0, .int l1, .int l2, .int l3, .int l4, .int l5, .int l6, .int s0, .int l8, .int l9, l10] [.int (0 : Int32), .int l8] h1
  else
    q_run qm_X11_span call 141 [.ref l0, .int l1, .int l2, .int l3, .int l4, .int l5, .int l6, .int s0, .int l8, .int l9, l10] [.int (1 : Int32), .int l8] h1) := by
  refine (q_cut_eq _ _ [0, 39, 40, 62, 100, 107, 123, 141, 173] 200 _ _ _ _).trans ?_
  rfl
set_option maxRecDepth 20000 in
theorem k_X11_span_141 (call : Nat → List Value → qH → qR) (l0 : Nat) (l1 : Int32) (l2 : Int32) (l3 : Int32) (l4 : Int32) (l5 : Int32) (l6 : Int32) (l7 : Int32) (l8 : Value) (l9 : Int32) (l10 : Value) (s0 : Int32) (s1 : Int32) (h : qH) : q_run qm_X11_span call 141 [.ref l0, .int l1, .int l2, .int l3, .int l4, .int l5, .int l6, .int l7, l8, .int l9, l10] [.int s1, .int s0] h =
  q_run qm_X11_span call 62 [.ref l0, .int l1, .int l2, .int l3, .int l4, .int l5, .int l6, .int l7, .int (s0 + s1), .int (l9 + (1 : Int32)), l10] [] h := by
  refine (q_cut_eq _ _ [0, 39, 40, 62, 100, 107, 123, 141, 173] 200 _ _ _ _).trans ?_
  rfl
set_option maxRecDepth 20000 in
theorem k_X11_span_173 (call : Nat → List Value → qH → qR) (l0 : Value) (l1 : Value) (l2 : Value) (l3 : Value) (l4 : Value) (l5 : Value) (l6 : Value) (l7 : Value) (l8 : Value) (l9 : Value) (l10 : Value) (s0 : Int32) (h : qH) : q_run qm_X11_span call 173 [l0, l1, l2, l3, l4, l5, l6, l7, l8, l9, l10] [.int s0] h =
  some (.inl (some (.int s0)), h) := by
  refine (q_cut_eq _ _ [0, 39, 40, 62, 100, 107, 123, 141, 173] 200 _ _ _ _).trans ?_
  rfl
set_option maxRecDepth 20000 in
theorem k_X11_keepsRow_0 (call : Nat → List Value → qH → qR) (l0 : Nat) (l1 : Int32) (l2 : Nat) (l3 : Int32) (l4 : Int32) (h : qH) : q_run qm_X11_keepsRow call 0 [.ref l0, .int l1, .ref l2, .int l3, .int l4, q_junk] [] h =
  q_run qm_X11_keepsRow call 3 [.ref l0, .int l1, .ref l2, .int l3, .int l4, .int (0 : Int32)] [] h := by
  refine (q_cut_eq _ _ [0, 3, 43] 200 _ _ _ _).trans ?_
  rfl
set_option maxRecDepth 20000 in
theorem k_X11_keepsRow_3 (call : Nat → List Value → qH → qR) (l0 : Nat) (l1 : Int32) (l2 : Nat) (l3 : Int32) (l4 : Int32) (l5 : Int32) (h : qH) : q_run qm_X11_keepsRow call 3 [.ref l0, .int l1, .ref l2, .int l3, .int l4, .int l5] [] h =
  if q_cmp .ge l5 l3 = true then
    some (.inl (some (.int (l1 + l3))), h)
  else
    if q_cmp .eq l4 (0 : Int32) = true then
      q_gR h (.ref l0) 11 60 fun r1 =>
      q_ald h (.ref r1) 0 (l1 + l5) fun x2 =>
      q_ast h (.ref l2) 0 l5 x2 fun h3 =>
      q_run qm_X11_keepsRow call 43 [.ref l0, .int l1, .ref l2, .int l3, .int l4, .int l5] [] h3
    else
      q_gR h (.ref l0) 11 60 fun r4 =>
      q_ald h (.ref l2) 0 l5 fun x5 =>
      q_ast h (.ref r4) 0 (l1 + l5) x5 fun h6 =>
      q_run qm_X11_keepsRow call 43 [.ref l0, .int l1, .ref l2, .int l3, .int l4, .int l5] [] h6 := by
  refine (q_cut_eq _ _ [0, 3, 43] 200 _ _ _ _).trans ?_
  rfl
set_option maxRecDepth 20000 in
theorem k_X11_keepsRow_43 (call : Nat → List Value → qH → qR) (l0 : Nat) (l1 : Int32) (l2 : Nat) (l3 : Int32) (l4 : Int32) (l5 : Int32) (h : qH) : q_run qm_X11_keepsRow call 43 [.ref l0, .int l1, .ref l2, .int l3, .int l4, .int l5] [] h =
  q_run qm_X11_keepsRow call 3 [.ref l0, .int l1, .ref l2, .int l3, .int l4, .int (l5 + (1 : Int32))] [] h := by
  refine (q_cut_eq _ _ [0, 3, 43] 200 _ _ _ _).trans ?_
  rfl
set_option maxRecDepth 20000 in
theorem k_X11_keepsAll_0 (call : Nat → List Value → qH → qR) (l0 : Nat) (l1 : Int32) (l2 : Int32) (h : qH) : q_run qm_X11_keepsAll call 0 [.ref l0, .int l1, .int l2, q_junk] [] h =
  q_gR h (.ref l0) 11 42 fun r1 =>
  q_rcv h (.ref l0) 11 (q_rI (call 275 [.ref l0, .int ((800 : Int32) * l1), .ref r1, .int (47 : Int32), .int l2] h) q_t0 fun x3 h2 =>
  q_gR h2 (.ref l0) 11 44 fun r4 =>
  q_rcv h2 (.ref l0) 11 (q_rI (call 275 [.ref l0, .int x3, .ref r4, .int (752 : Int32), .int l2] h2) q_t0 fun x6 h5 =>
  if q_cmp .eq l2 (0 : Int32) = true then
    q_gR h5 (.ref l0) 11 60 fun r7 =>
    q_ald h5 (.ref r7) 0 x6 fun x8 =>
    q_pV h5 (.ref l0) 11 37 (.int x8) fun h9 =>
    q_run qm_X11_keepsAll call 58 [.ref l0, .int l1, .int l2, .int x6] [] h9
  else
    q_gR h5 (.ref l0) 11 60 fun r10 =>
    q_gI h5 (.ref l0) 11 37 fun x11 =>
    q_ast h5 (.ref r10) 0 x6 x11 fun h12 =>
    q_run qm_X11_keepsAll call 58 [.ref l0, .int l1, .int l2, .int x6] [] h12)) := by
  refine (q_cut_eq _ _ [0, 58] 200 _ _ _ _).trans ?_
  rfl
set_option maxRecDepth 20000 in
theorem k_X11_keepsAll_58 (call : Nat → List Value → qH → qR) (l0 : Value) (l1 : Value) (l2 : Value) (l3 : Value) (h : qH) : q_run qm_X11_keepsAll call 58 [l0, l1, l2, l3] [] h =
  some (.inl none, h) := by
  refine (q_cut_eq _ _ [0, 58] 200 _ _ _ _).trans ?_
  rfl
set_option maxRecDepth 20000 in
theorem k_X11_image_0 (call : Nat → List Value → qH → qR) (l0 : Nat) (h : qH) : q_run qm_X11_image call 0 [.ref l0] [] h =
  q_pV h (.ref l0) 11 0 (.int (0 : Int32)) fun h1 =>
  q_gI h1 (.ref l0) 11 61 fun x2 =>
  if q_cmp .ne x2 (3 : Int32) = true then
    q_gI h1 (.ref l0) 11 61 fun x3 =>
    q_rcv h1 (.ref l0) 11 (q_rV (call 276 [.ref l0, .int x3, .int (1 : Int32)] h1) q_t0 fun h4 =>
    q_gI h4 (.ref l0) 11 61 fun x6 =>
    q_pV h4 (.ref l0) 11 61 (.int (x6 + (1 : Int32))) fun h7 =>
    q_gI h7 (.ref l0) 11 61 fun x8 =>
    some (.inl (some (.int x8)), h7))
  else
    some (.inl (some (.int (-1 : Int32))), h1) := by
  refine (q_cut_eq _ _ [0] 200 _ _ _ _).trans ?_
  rfl
set_option maxRecDepth 20000 in
theorem k_X11_restore_0 (call : Nat → List Value → qH → qR) (l0 : Nat) (h : qH) : q_run qm_X11_restore call 0 [.ref l0] [] h =
  q_pV h (.ref l0) 11 0 (.int (0 : Int32)) fun h1 =>
  q_gI h1 (.ref l0) 11 61 fun x2 =>
  if q_cmp .ne x2 (0 : Int32) = true then
    q_gI h1 (.ref l0) 11 61 fun x3 =>
    q_pV h1 (.ref l0) 11 61 (.int (x3 - (1 : Int32))) fun h4 =>
    q_gI h4 (.ref l0) 11 61 fun x5 =>
    q_rcv h4 (.ref l0) 11 (q_rV (call 276 [.ref l0, .int x5, .int (0 : Int32)] h4) q_t0 fun h6 =>
    q_pV h6 (.ref l0) 11 38 (.int (0 : Int32)) fun h8 =>
    q_gI h8 (.ref l0) 11 61 fun x9 =>
    some (.inl (some (.int x9)), h8))
  else
    some (.inl (some (.int (-1 : Int32))), h1) := by
  refine (q_cut_eq _ _ [0] 200 _ _ _ _).trans ?_
  rfl
set_option maxRecDepth 20000 in
theorem k_X11_status_0 (call : Nat → List Value → qH → qR) (l0 : Nat) (l1 : Int32) (h : qH) : q_run qm_X11_status call 0 [.ref l0, .int l1] [] h =
  q_pV h (.ref l0) 11 0 (.int (0 : Int32)) fun h1 =>
  q_rI (call 165 [.int l1, .int (0 : Int32), .int (1 : Int32)] h1) q_t0 fun x3 h2 =>
  if q_cmp .eq x3 (0 : Int32) = true then
    q_run qm_X11_status call 24 [.ref l0, .int l1] [.int (-1 : Int32)] h2
  else
    q_gR h2 (.ref l0) 11 1 fun r4 =>
    q_ald h2 (.ref r4) 0 l1 fun x5 =>
    q_run qm_X11_status call 24 [.ref l0, .int l1] [.int x5] h2 := by
  refine (q_cut_eq _ _ [0, 24] 200 _ _ _ _).trans ?_
  rfl
set_option maxRecDepth 20000 in
theorem k_X11_status_24 (call : Nat → List Value → qH → qR) (l0 : Value) (l1 : Value) (s0 : Int32) (h : qH) : q_run qm_X11_status call 24 [l0, l1] [.int s0] h =
  some (.inl (some (.int s0)), h) := by
  refine (q_cut_eq _ _ [0, 24] 200 _ _ _ _).trans ?_
  rfl
set_option maxRecDepth 20000 in
theorem k_X11_count_0 (call : Nat → List Value → qH → qR) (l0 : Nat) (l1 : Int32) (h : qH) : q_run qm_X11_count call 0 [.ref l0, .int l1] [] h =
  q_pV h (.ref l0) 11 0 (.int (0 : Int32)) fun h1 =>
  if q_cmp .ne l1 (0 : Int32) = true then
    if q_cmp .ne l1 (1 : Int32) = true then
      if q_cmp .ne l1 (2 : Int32) = true then
        q_run qm_X11_count call 41 [.ref l0, .int l1] [.int (-1 : Int32)] h1
      else
        q_gI h1 (.ref l0) 11 37 fun x2 =>
        q_run qm_X11_count call 41 [.ref l0, .int l1] [.int x2] h1
    else
      q_gI h1 (.ref l0) 11 2 fun x3 =>
      q_run qm_X11_count call 41 [.ref l0, .int l1] [.int x3] h1
  else
    q_gI h1 (.ref l0) 11 61 fun x4 =>
    q_run qm_X11_count call 41 [.ref l0, .int l1] [.int x4] h1 := by
  refine (q_cut_eq _ _ [0, 41] 200 _ _ _ _).trans ?_
  rfl
set_option maxRecDepth 20000 in
theorem k_X11_count_41 (call : Nat → List Value → qH → qR) (l0 : Value) (l1 : Value) (s0 : Int32) (h : qH) : q_run qm_X11_count call 41 [l0, l1] [.int s0] h =
  some (.inl (some (.int s0)), h) := by
  refine (q_cut_eq _ _ [0, 41] 200 _ _ _ _).trans ?_
  rfl
