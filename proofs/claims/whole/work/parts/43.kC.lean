set_option maxRecDepth 20000 in
theorem k_X8_init_0 (call : Nat → List Value → qH → qR) (l0 : Nat) (h : qH) : q_run qm_X8_init call 0 [.ref l0] [] h =
  q_nar h 0 (38 : Int32) fun r1 h2 =>
  q_pV h2 (.ref l0) 8 0 (.ref r1) fun h3 =>
  q_nar h3 0 (38 : Int32) fun r4 h5 =>
  q_pV h5 (.ref l0) 8 1 (.ref r4) fun h6 =>
  q_nar h6 0 (38 : Int32) fun r7 h8 =>
  q_pV h8 (.ref l0) 8 2 (.ref r7) fun h9 =>
  q_run qm_X8_init call 28 [.ref l0] [] h9 := by
  refine (q_cut_eq _ _ [0, 28] 200 _ _ _ _).trans ?_
  rfl
set_option maxRecDepth 20000 in
theorem k_X8_init_28 (call : Nat → List Value → qH → qR) (l0 : Value) (h : qH) : q_run qm_X8_init call 28 [l0] [] h =
  some (.inl none, h) := by
  refine (q_cut_eq _ _ [0, 28] 200 _ _ _ _).trans ?_
  rfl
set_option maxRecDepth 20000 in
theorem k_X8_readFrom_0 (call : Nat → List Value → qH → qR) (l0 : Nat) (l1 : Nat) (l2 : Int32) (h : qH) : q_run qm_X8_readFrom call 0 [.ref l0, .ref l1, .int l2] [] h =
  q_pV h (.ref l0) 8 3 (.int (0 : Int32)) fun h1 =>
  q_pV h1 (.ref l0) 8 4 (.int l2) fun h2 =>
  q_rcv h2 (.ref l0) 8 (q_rI (call 92 [.ref l0, .ref l1, .int (0 : Int32)] h2) q_t0 fun x4 h3 =>
  q_boo true x4 fun z => some (.inl (some (.int z)), h3)) := by
  refine (q_cut_eq _ _ [0] 200 _ _ _ _).trans ?_
  rfl
set_option maxRecDepth 20000 in
theorem k_X8_readRow_0 (call : Nat → List Value → qH → qR) (l0 : Nat) (l1 : Nat) (l2 : Int32) (h : qH) : q_run qm_X8_readRow call 0 [.ref l0, .ref l1, .int l2, q_junk, q_junk] [] h =
  if q_cmp .ne l2 (0 : Int32) = true then
    q_run qm_X8_readRow call 10 [.ref l0, .ref l1, .int l2, q_junk, q_junk] [.int (93 : Int32)] h
  else
    q_run qm_X8_readRow call 10 [.ref l0, .ref l1, .int l2, q_junk, q_junk] [.int (-1 : Int32)] h := by
  refine (q_cut_eq _ _ [0, 10, 14, 48, 56] 200 _ _ _ _).trans ?_
  rfl
set_option maxRecDepth 20000 in
theorem k_X8_readRow_10 (call : Nat → List Value → qH → qR) (l0 : Nat) (l1 : Nat) (l2 : Int32) (l3 : Value) (l4 : Value) (s0 : Int32) (h : qH) : q_run qm_X8_readRow call 10 [.ref l0, .ref l1, .int l2, l3, l4] [.int s0] h =
  q_run qm_X8_readRow call 14 [.ref l0, .ref l1, .int l2, .int s0, .int (0 : Int32)] [] h := by
  refine (q_cut_eq _ _ [0, 10, 14, 48, 56] 200 _ _ _ _).trans ?_
  rfl
set_option maxRecDepth 20000 in
theorem k_X8_readRow_14 (call : Nat → List Value → qH → qR) (l0 : Nat) (l1 : Nat) (l2 : Int32) (l3 : Int32) (l4 : Int32) (h : qH) : q_run qm_X8_readRow call 14 [.ref l0, .ref l1, .int l2, .int l3, .int l4] [] h =
  if q_cmp .ge l4 (150 : Int32) = true then
    q_run qm_X8_readRow call 56 [.ref l0, .ref l1, .int l2, .int l3, .int l4] [] h
  else
    q_rcv h (.ref l1) 9 (q_rI (call 105 [.ref l1] h) q_t0 fun x2 h1 =>
    if q_cmp .eq x2 l3 = true then
      q_run qm_X8_readRow call 56 [.ref l0, .ref l1, .int l2, .int l3, .int l4] [] h1
    else
      q_rcv h1 (.ref l0) 8 (q_rI (call 93 [.ref l0, .ref l1, .int l2] h1) q_t0 fun x4 h3 =>
      if q_cmp .eq x4 (0 : Int32) = true then
        q_run qm_X8_readRow call 48 [.ref l0, .ref l1, .int l2, .int l3, .int l4] [] h3
      else
        q_rcv h3 (.ref l1) 9 (q_rI (call 107 [.ref l1, .int (59 : Int32)] h3) q_t0 fun x6 h5 =>
        if q_cmp .ne x6 (0 : Int32) = true then
          q_run qm_X8_readRow call 14 [.ref l0, .ref l1, .int l2, .int l3, .int (l4 + (1 : Int32))] [] h5
        else
          q_run qm_X8_readRow call 48 [.ref l0, .ref l1, .int l2, .int l3, .int l4] [] h5))) := by
  refine (q_cut_eq _ _ [0, 10, 14, 48, 56] 200 _ _ _ _).trans ?_
  rfl
set_option maxRecDepth 20000 in
theorem k_X8_readRow_48 (call : Nat → List Value → qH → qR) (l0 : Value) (l1 : Value) (l2 : Value) (l3 : Value) (l4 : Value) (h : qH) : q_run qm_X8_readRow call 48 [l0, l1, l2, l3, l4] [] h =
  q_boo true (0 : Int32) fun z => some (.inl (some (.int z)), h) := by
  refine (q_cut_eq _ _ [0, 10, 14, 48, 56] 200 _ _ _ _).trans ?_
  rfl
set_option maxRecDepth 20000 in
theorem k_X8_readRow_56 (call : Nat → List Value → qH → qR) (l0 : Value) (l1 : Value) (l2 : Value) (l3 : Value) (l4 : Value) (h : qH) : q_run qm_X8_readRow call 56 [l0, l1, l2, l3, l4] [] h =
  q_boo true (1 : Int32) fun z => some (.inl (some (.int z)), h) := by
  refine (q_cut_eq _ _ [0, 10, 14, 48, 56] 200 _ _ _ _).trans ?_
  rfl
set_option maxRecDepth 20000 in
theorem k_X8_readStep_0 (call : Nat → List Value → qH → qR) (l0 : Nat) (l1 : Nat) (l2 : Int32) (h : qH) : q_run qm_X8_readStep call 0 [.ref l0, .ref l1, .int l2] [] h =
  q_rcv h (.ref l1) 9 (q_rI (call 109 [.ref l1] h) q_t0 fun x2 h1 =>
  if q_cmp .ne x2 (0 : Int32) = true then
    q_rcv h1 (.ref l1) 9 (q_rI (call 110 [.ref l1, .float 15] h1) q_t0 fun x4 h3 =>
    if q_cmp .eq x4 (0 : Int32) = true then
      q_rcv h3 (.ref l1) 9 (q_rI (call 110 [.ref l1, .float 16] h3) q_t0 fun x6 h5 =>
      if q_cmp .eq x6 (0 : Int32) = true then
        q_rcv h5 (.ref l1) 9 (q_rI (call 110 [.ref l1, .float 9] h5) q_t0 fun x8 h7 =>
        if q_cmp .eq x8 (0 : Int32) = true then
          q_rcv h7 (.ref l1) 9 (q_rI (call 110 [.ref l1, .float 17] h7) q_t0 fun x10 h9 =>
          if q_cmp .eq x10 (0 : Int32) = true then
            q_rcv h9 (.ref l1) 9 (q_rI (call 110 [.ref l1, .float 13] h9) q_t0 fun x12 h11 =>
            if q_cmp .eq x12 (0 : Int32) = true then
              q_rcv h11 (.ref l1) 9 (q_rI (call 110 [.ref l1, .float 18] h11) q_t0 fun x14 h13 =>
              if q_cmp .eq x14 (0 : Int32) = true then
                q_gI h13 (.ref l1) 9 4 fun x15 =>
                q_rcv h13 (.ref l1) 9 (q_rI (call 104 [.ref l1, .int (1 : Int32), .int x15] h13) q_t0 fun x17 h16 =>
                q_boo true x17 fun z => some (.inl (some (.int z)), h16))
              else
                if q_cmp .ge l2 (6 : Int32) = true then
                  q_run qm_X8_readStep call 134 [.ref l0, .ref l1, .int l2] [.int (0 : Int32), .ref l1] h13
                else
                  q_run qm_X8_readStep call 134 [.ref l0, .ref l1, .int l2] [.int (1 : Int32), .ref l1] h13)
            else
              q_rcv h11 (.ref l0) 8 (q_rI (call 96 [.ref l0, .int (4 : Int32), .int (0 : Int32), .int (0 : Int32)] h11) q_t0 fun x19 h18 =>
              q_boo true x19 fun z => some (.inl (some (.int z)), h18)))
          else
            q_rcv h9 (.ref l0) 8 (q_rI (call 96 [.ref l0, .int (3 : Int32), .int (0 : Int32), .int (0 : Int32)] h9) q_t0 fun x21 h20 =>
            q_boo true x21 fun z => some (.inl (some (.int z)), h20)))
        else
          q_rcv h7 (.ref l1) 9 (q_rI (call 108 [.ref l1, .int (0 : Int32), .int (9 : Int32)] h7) q_t0 fun x23 h22 =>
          if q_cmp .eq x23 (0 : Int32) = true then
            q_run qm_X8_readStep call 77 [.ref l0, .ref l1, .int l2] [] h22
          else
            q_gI h22 (.ref l1) 9 5 fun x24 =>
            q_rcv h22 (.ref l0) 8 (q_rI (call 96 [.ref l0, .int (2 : Int32), .int x24, .int (0 : Int32)] h22) q_t0 fun x26 h25 =>
            if q_cmp .eq x26 (0 : Int32) = true then
              q_run qm_X8_readStep call 77 [.ref l0, .ref l1, .int l2] [] h25
            else
              q_run qm_X8_readStep call 78 [.ref l0, .ref l1, .int l2] [.int (1 : Int32)] h25)))
      else
        q_rcv h5 (.ref l0) 8 (q_rI (call 94 [.ref l0, .ref l1, .int (1 : Int32)] h5) q_t0 fun x28 h27 =>
        q_boo true x28 fun z => some (.inl (some (.int z)), h27)))
    else
      q_rcv h3 (.ref l0) 8 (q_rI (call 94 [.ref l0, .ref l1, .int (0 : Int32)] h3) q_t0 fun x30 h29 =>
      q_boo true x30 fun z => some (.inl (some (.int z)), h29)))
  else
    q_boo true (0 : Int32) fun z => some (.inl (some (.int z)), h1)) := by
  refine (q_cut_eq _ _ [0, 77, 78, 134, 155, 156] 200 _ _ _ _).trans ?_
  rfl
set_option maxRecDepth 20000 in
theorem k_X8_readStep_77 (call : Nat → List Value → qH → qR) (l0 : Value) (l1 : Value) (l2 : Value) (h : qH) : q_run qm_X8_readStep call 77 [l0, l1, l2] [] h =
  q_run qm_X8_readStep call 78 [l0, l1, l2] [.int (0 : Int32)] h := by
  refine (q_cut_eq _ _ [0, 77, 78, 134, 155, 156] 200 _ _ _ _).trans ?_
  rfl
set_option maxRecDepth 20000 in
theorem k_X8_readStep_78 (call : Nat → List Value → qH → qR) (l0 : Value) (l1 : Value) (l2 : Value) (s0 : Int32) (h : qH) : q_run qm_X8_readStep call 78 [l0, l1, l2] [.int s0] h =
  q_boo true s0 fun z => some (.inl (some (.int z)), h) := by
  refine (q_cut_eq _ _ [0, 77, 78, 134, 155, 156] 200 _ _ _ _).trans ?_
  rfl
set_option maxRecDepth 20000 in
theorem k_X8_readStep_134 (call : Nat → List Value → qH → qR) (l0 : Nat) (l1 : Nat) (l2 : Int32) (s0 : Nat) (s1 : Int32) (h : qH) : q_run qm_X8_readStep call 134 [.ref l0, .ref l1, .int l2] [.int s1, .ref s0] h =
  q_rcv h (.ref s0) 9 (q_rI (call 111 [.ref s0, .int s1] h) q_t0 fun x2 h1 =>
  if q_cmp .eq x2 (0 : Int32) = true then
    q_run qm_X8_readStep call 155 [.ref l0, .ref l1, .int l2] [] h1
  else
    q_rcv h1 (.ref l0) 8 (q_rI (call 95 [.ref l0, .ref l1, .int (l2 + (1 : Int32))] h1) q_t0 fun x4 h3 =>
    if q_cmp .eq x4 (0 : Int32) = true then
      q_run qm_X8_readStep call 155 [.ref l0, .ref l1, .int l2] [] h3
    else
      q_run qm_X8_readStep call 156 [.ref l0, .ref l1, .int l2] [.int (1 : Int32)] h3)) := by
  refine (q_cut_eq _ _ [0, 77, 78, 134, 155, 156] 200 _ _ _ _).trans ?_
  rfl
set_option maxRecDepth 20000 in
theorem k_X8_readStep_155 (call : Nat → List Value → qH → qR) (l0 : Value) (l1 : Value) (l2 : Value) (h : qH) : q_run qm_X8_readStep call 155 [l0, l1, l2] [] h =
  q_run qm_X8_readStep call 156 [l0, l1, l2] [.int (0 : Int32)] h := by
  refine (q_cut_eq _ _ [0, 77, 78, 134, 155, 156] 200 _ _ _ _).trans ?_
  rfl
set_option maxRecDepth 20000 in
theorem k_X8_readStep_156 (call : Nat → List Value → qH → qR) (l0 : Value) (l1 : Value) (l2 : Value) (s0 : Int32) (h : qH) : q_run qm_X8_readStep call 156 [l0, l1, l2] [.int s0] h =
  q_boo true s0 fun z => some (.inl (some (.int z)), h) := by
  refine (q_cut_eq _ _ [0, 77, 78, 134, 155, 156] 200 _ _ _ _).trans ?_
  rfl
set_option maxRecDepth 20000 in
theorem k_X8_readFlick_0 (call : Nat → List Value → qH → qR) (l0 : Nat) (l1 : Nat) (l2 : Int32) (h : qH) : q_run qm_X8_readFlick call 0 [.ref l0, .ref l1, .int l2, q_junk] [] h =
  q_gI h (.ref l0) 8 4 fun x1 =>
  q_rcv h (.ref l1) 9 (q_rI (call 108 [.ref l1, .int (0 : Int32), .int (x1 - (1 : Int32))] h) q_t0 fun x3 h2 =>
  if q_cmp .ne x3 (0 : Int32) = true then
    q_gI h2 (.ref l1) 9 5 fun x4 =>
    q_rcv h2 (.ref l1) 9 (q_rI (call 108 [.ref l1, .int (1 : Int32), .int (9 : Int32)] h2) q_t0 fun x6 h5 =>
    if q_cmp .eq x6 (0 : Int32) = true then
      q_run qm_X8_readFlick call 48 [.ref l0, .ref l1, .int l2, .int x4] [] h5
    else
      q_gI h5 (.ref l1) 9 5 fun x7 =>
      q_rcv h5 (.ref l0) 8 (q_rI (call 96 [.ref l0, .int l2, .int x4, .int x7] h5) q_t0 fun x9 h8 =>
      if q_cmp .eq x9 (0 : Int32) = true then
        q_run qm_X8_readFlick call 48 [.ref l0, .ref l1, .int l2, .int x4] [] h8
      else
        q_run qm_X8_readFlick call 49 [.ref l0, .ref l1, .int l2, .int x4] [.int (1 : Int32)] h8))
  else
    q_boo true (0 : Int32) fun z => some (.inl (some (.int z)), h2)) := by
  refine (q_cut_eq _ _ [0, 48, 49] 200 _ _ _ _).trans ?_
  rfl
set_option maxRecDepth 20000 in
theorem k_X8_readFlick_48 (call : Nat → List Value → qH → qR) (l0 : Value) (l1 : Value) (l2 : Value) (l3 : Value) (h : qH) : q_run qm_X8_readFlick call 48 [l0, l1, l2, l3] [] h =
  q_run qm_X8_readFlick call 49 [l0, l1, l2, l3] [.int (0 : Int32)] h := by
  refine (q_cut_eq _ _ [0, 48, 49] 200 _ _ _ _).trans ?_
  rfl
set_option maxRecDepth 20000 in
theorem k_X8_readFlick_49 (call : Nat → List Value → qH → qR) (l0 : Value) (l1 : Value) (l2 : Value) (l3 : Value) (s0 : Int32) (h : qH) : q_run qm_X8_readFlick call 49 [l0, l1, l2, l3] [.int s0] h =
  q_boo true s0 fun z => some (.inl (some (.int z)), h) := by
  refine (q_cut_eq _ _ [0, 48, 49] 200 _ _ _ _).trans ?_
  rfl
set_option maxRecDepth 20000 in
theorem k_X8_readAgain_0 (call : Nat → List Value → qH → qR) (l0 : Nat) (l1 : Nat) (l2 : Int32) (h : qH) : q_run qm_X8_readAgain call 0 [.ref l0, .ref l1, .int l2, q_junk] [] h =
  q_rcv h (.ref l1) 9 (q_rI (call 108 [.ref l1, .int (0 : Int32), .int (30 : Int32)] h) q_t0 fun x2 h1 =>
  if q_cmp .ne x2 (0 : Int32) = true then
    q_gI h1 (.ref l0) 8 3 fun x3 =>
    q_gI h1 (.ref l1) 9 5 fun x4 =>
    q_rcv h1 (.ref l0) 8 (q_rI (call 96 [.ref l0, .int (5 : Int32), .int x4, .int (0 : Int32)] h1) q_t0 fun x6 h5 =>
    q_rcv h5 (.ref l1) 9 (q_rI (call 107 [.ref l1, .int (91 : Int32)] h5) q_t0 fun x8 h7 =>
    if q_cmp .eq x8 (0 : Int32) = true then
      q_run qm_X8_readAgain call 55 [.ref l0, .ref l1, .int l2, .int x3] [] h7
    else
      q_rcv h7 (.ref l0) 8 (q_rI (call 92 [.ref l0, .ref l1, .int l2] h7) q_t0 fun x10 h9 =>
      if q_cmp .eq x10 (0 : Int32) = true then
        q_run qm_X8_readAgain call 55 [.ref l0, .ref l1, .int l2, .int x3] [] h9
      else
        q_rcv h9 (.ref l1) 9 (q_rI (call 107 [.ref l1, .int (93 : Int32)] h9) q_t0 fun x12 h11 =>
        if q_cmp .ne x12 (0 : Int32) = true then
          q_gR h11 (.ref l0) 8 2 fun r13 =>
          q_len h11 (.ref r13) fun x14 =>
          if q_cmp .ge x3 x14 = true then
            q_run qm_X8_readAgain call 76 [.ref l0, .ref l1, .int l2, .int x3] [] h11
          else
            q_gR h11 (.ref l0) 8 2 fun r15 =>
            q_gI h11 (.ref l0) 8 3 fun x16 =>
            q_ast h11 (.ref r15) 0 x3 x16 fun h17 =>
            q_run qm_X8_readAgain call 76 [.ref l0, .ref l1, .int l2, .int x3] [] h17
        else
          q_run qm_X8_readAgain call 55 [.ref l0, .ref l1, .int l2, .int x3] [] h11))))
  else
    q_boo true (0 : Int32) fun z => some (.inl (some (.int z)), h1)) := by
  refine (q_cut_eq _ _ [0, 55, 76] 200 _ _ _ _).trans ?_
  rfl
set_option maxRecDepth 20000 in
theorem k_X8_readAgain_55 (call : Nat → List Value → qH → qR) (l0 : Value) (l1 : Value) (l2 : Value) (l3 : Value) (h : qH) : q_run qm_X8_readAgain call 55 [l0, l1, l2, l3] [] h =
  q_boo true (0 : Int32) fun z => some (.inl (some (.int z)), h) := by
  refine (q_cut_eq _ _ [0, 55, 76] 200 _ _ _ _).trans ?_
  rfl
set_option maxRecDepth 20000 in
theorem k_X8_readAgain_76 (call : Nat → List Value → qH → qR) (l0 : Value) (l1 : Value) (l2 : Value) (l3 : Value) (h : qH) : q_run qm_X8_readAgain call 76 [l0, l1, l2, l3] [] h =
  q_boo true (1 : Int32) fun z => some (.inl (some (.int z)), h) := by
  refine (q_cut_eq _ _ [0, 55, 76] 200 _ _ _ _).trans ?_
  rfl
set_option maxRecDepth 20000 in
theorem k_X8_add_0 (call : Nat → List Value → qH → qR) (l0 : Nat) (l1 : Int32) (l2 : Int32) (l3 : Int32) (h : qH) : q_run qm_X8_add call 0 [.ref l0, .int l1, .int l2, .int l3] [] h =
  q_gI h (.ref l0) 8 3 fun x1 =>
  if q_cmp .lt x1 (0 : Int32) = true then
    q_run qm_X8_add call 59 [.ref l0, .int l1, .int l2, .int l3] [] h
  else
    q_gI h (.ref l0) 8 3 fun x2 =>
    q_gR h (.ref l0) 8 0 fun r3 =>
    q_len h (.ref r3) fun x4 =>
    if q_cmp .ge x2 x4 = true then
      q_run qm_X8_add call 59 [.ref l0, .int l1, .int l2, .int l3] [] h
    else
      q_gR h (.ref l0) 8 0 fun r5 =>
      q_gI h (.ref l0) 8 3 fun x6 =>
      q_ast h (.ref r5) 0 x6 l1 fun h7 =>
      q_gR h7 (.ref l0) 8 1 fun r8 =>
      q_gI h7 (.ref l0) 8 3 fun x9 =>
      q_ast h7 (.ref r8) 0 x9 l2 fun h10 =>
      q_gR h10 (.ref l0) 8 2 fun r11 =>
      q_gI h10 (.ref l0) 8 3 fun x12 =>
      q_ast h10 (.ref r11) 0 x12 l3 fun h13 =>
      q_gI h13 (.ref l0) 8 3 fun x14 =>
      q_pV h13 (.ref l0) 8 3 (.int (x14 + (1 : Int32))) fun h15 =>
      q_run qm_X8_add call 59 [.ref l0, .int l1, .int l2, .int l3] [] h15 := by
  refine (q_cut_eq _ _ [0, 59] 200 _ _ _ _).trans ?_
  rfl
set_option maxRecDepth 20000 in
theorem k_X8_add_59 (call : Nat → List Value → qH → qR) (l0 : Value) (l1 : Value) (l2 : Value) (l3 : Value) (h : qH) : q_run qm_X8_add call 59 [l0, l1, l2, l3] [] h =
  q_boo true (1 : Int32) fun z => some (.inl (some (.int z)), h) := by
  refine (q_cut_eq _ _ [0, 59] 200 _ _ _ _).trans ?_
  rfl
set_option maxRecDepth 20000 in
theorem k_X8_run_0 (call : Nat → List Value → qH → qR) (l0 : Nat) (l1 : Nat) (h : qH) : q_run qm_X8_run call 0 [.ref l0, .ref l1] [] h =
  q_pV h (.ref l0) 8 5 (.int (0 : Int32)) fun h1 =>
  q_pV h1 (.ref l0) 8 6 (.int (0 : Int32)) fun h2 =>
  q_pV h2 (.ref l0) 8 7 (.int (0 : Int32)) fun h3 =>
  q_gI h3 (.ref l0) 8 3 fun x4 =>
  q_rcv h3 (.ref l0) 8 (q_rV (call 98 [.ref l0, .ref l1, .int (0 : Int32), .int x4, .int (0 : Int32)] h3) q_t0 fun h5 =>
  some (.inl none, h5)) := by
  refine (q_cut_eq _ _ [0] 200 _ _ _ _).trans ?_
  rfl
set_option maxRecDepth 20000 in
theorem k_X8_runRow_0 (call : Nat → List Value → qH → qR) (l0 : Nat) (l1 : Nat) (l2 : Int32) (l3 : Int32) (l4 : Int32) (h : qH) : q_run qm_X8_runRow call 0 [.ref l0, .ref l1, .int l2, .int l3, .int l4, q_junk, q_junk] [] h =
  q_run qm_X8_runRow call 3 [.ref l0, .ref l1, .int l2, .int l3, .int l4, .int l2, q_junk] [] h := by
  refine (q_cut_eq _ _ [0, 3, 43, 98, 159, 178, 188] 200 _ _ _ _).trans ?_
  rfl
set_option maxRecDepth 20000 in
theorem k_X8_runRow_3 (call : Nat → List Value → qH → qR) (l0 : Nat) (l1 : Nat) (l2 : Value) (l3 : Int32) (l4 : Int32) (l5 : Int32) (l6 : Value) (h : qH) : q_run qm_X8_runRow call 3 [.ref l0, .ref l1, l2, .int l3, .int l4, .int l5, l6] [] h =
  if q_cmp .ge l5 l3 = true then
    q_run qm_X8_runRow call 188 [.ref l0, .ref l1, l2, .int l3, .int l4, .int l5, l6] [] h
  else
    q_gI h (.ref l0) 8 5 fun x1 =>
    if q_cmp .ge x1 (200 : Int32) = true then
      q_run qm_X8_runRow call 188 [.ref l0, .ref l1, l2, .int l3, .int l4, .int l5, l6] [] h
    else
      q_gI h (.ref l0) 8 5 fun x2 =>
      q_pV h (.ref l0) 8 5 (.int (x2 + (1 : Int32))) fun h3 =>
      q_gR h3 (.ref l0) 8 0 fun r4 =>
      q_ald h3 (.ref r4) 0 l5 fun x5 =>
      if q_cmp .ne x5 (5 : Int32) = true then
        q_gR h3 (.ref l0) 8 0 fun r6 =>
        q_ald h3 (.ref r6) 0 l5 fun x7 =>
        q_gR h3 (.ref l0) 8 1 fun r8 =>
        q_ald h3 (.ref r8) 0 l5 fun x9 =>
        q_gR h3 (.ref l0) 8 2 fun r10 =>
        q_ald h3 (.ref r10) 0 l5 fun x11 =>
        q_rI (call 99 [.ref l1, .int x7, .int x9, .int x11] h3) q_t0 fun x13 h12 =>
        q_gI h12 (.ref l0) 8 6 fun x14 =>
        if q_cmp .eq x13 (0 : Int32) = true then
          q_run qm_X8_runRow call 159 [.ref l0, .ref l1, l2, .int l3, .int l4, .int l5, .int x13] [.int (0 : Int32), .int x14, .ref l0] h12
        else
          q_run qm_X8_runRow call 159 [.ref l0, .ref l1, l2, .int l3, .int l4, .int l5, .int x13] [.int (1 : Int32), .int x14, .ref l0] h12
      else
        q_run qm_X8_runRow call 43 [.ref l0, .ref l1, l2, .int l3, .int l4, .int l5, .int (0 : Int32)] [] h3 := by
  refine (q_cut_eq _ _ [0, 3, 43, 98, 159, 178, 188] 200 _ _ _ _).trans ?_
  rfl
set_option maxRecDepth 20000 in
theorem k_X8_runRow_43 (call : Nat → List Value → qH → qR) (l0 : Nat) (l1 : Nat) (l2 : Value) (l3 : Int32) (l4 : Int32) (l5 : Int32) (l6 : Int32) (h : qH) : q_run qm_X8_runRow call 43 [.ref l0, .ref l1, l2, .int l3, .int l4, .int l5, .int l6] [] h =
  q_gR h (.ref l0) 8 1 fun r1 =>
  q_ald h (.ref r1) 0 l5 fun x2 =>
  if q_cmp .ge l6 x2 = true then
    q_run qm_X8_runRow call 98 [.ref l0, .ref l1, l2, .int l3, .int l4, .int l5, .int l6] [] h
  else
    q_gI h (.ref l0) 8 5 fun x3 =>
    if q_cmp .ge x3 (200 : Int32) = true then
      q_run qm_X8_runRow call 98 [.ref l0, .ref l1, l2, .int l3, .int l4, .int l5, .int l6] [] h
    else
      if q_cmp .ge l4 (6 : Int32) = true then
        q_run qm_X8_runRow call 98 [.ref l0, .ref l1, l2, .int l3, .int l4, .int l5, .int l6] [] h
      else
        q_gR h (.ref l0) 8 2 fun r4 =>
        q_ald h (.ref r4) 0 l5 fun x5 =>
        q_rcv h (.ref l0) 8 (q_rV (call 98 [.ref l0, .ref l1, .int (l5 + (1 : Int32)), .int x5, .int (l4 + (1 : Int32))] h) q_t0 fun h6 =>
        q_run qm_X8_runRow call 43 [.ref l0, .ref l1, l2, .int l3, .int l4, .int l5, .int (l6 + (1 : Int32))] [] h6) := by
  refine (q_cut_eq _ _ [0, 3, 43, 98, 159, 178, 188] 200 _ _ _ _).trans ?_
  rfl
set_option maxRecDepth 20000 in
theorem k_X8_runRow_98 (call : Nat → List Value → qH → qR) (l0 : Nat) (l1 : Nat) (l2 : Value) (l3 : Int32) (l4 : Int32) (l5 : Int32) (l6 : Value) (h : qH) : q_run qm_X8_runRow call 98 [.ref l0, .ref l1, l2, .int l3, .int l4, .int l5, l6] [] h =
  q_gR h (.ref l0) 8 2 fun r1 =>
  q_ald h (.ref r1) 0 l5 fun x2 =>
  q_run qm_X8_runRow call 3 [.ref l0, .ref l1, l2, .int l3, .int l4, .int (if x2 < (l5 + (1 : Int32)) then (l5 + (1 : Int32)) else x2), l6] [] h := by
  refine (q_cut_eq _ _ [0, 3, 43, 98, 159, 178, 188] 200 _ _ _ _).trans ?_
  rfl
set_option maxRecDepth 20000 in
theorem k_X8_runRow_159 (call : Nat → List Value → qH → qR) (l0 : Nat) (l1 : Nat) (l2 : Value) (l3 : Int32) (l4 : Int32) (l5 : Int32) (l6 : Int32) (s0 : Nat) (s1 : Int32) (s2 : Int32) (h : qH) : q_run qm_X8_runRow call 159 [.ref l0, .ref l1, l2, .int l3, .int l4, .int l5, .int l6] [.int s2, .int s1, .ref s0] h =
  q_pV h (.ref s0) 8 6 (.int (s1 + s2)) fun h1 =>
  q_gI h1 (.ref l0) 8 7 fun x2 =>
  if q_cmp .eq l6 (0 : Int32) = true then
    q_run qm_X8_runRow call 178 [.ref l0, .ref l1, l2, .int l3, .int l4, .int l5, .int l6] [.int (1 : Int32), .int x2, .ref l0] h1
  else
    q_run qm_X8_runRow call 178 [.ref l0, .ref l1, l2, .int l3, .int l4, .int l5, .int l6] [.int (0 : Int32), .int x2, .ref l0] h1 := by
  refine (q_cut_eq _ _ [0, 3, 43, 98, 159, 178, 188] 200 _ _ _ _).trans ?_
  rfl
set_option maxRecDepth 20000 in
theorem k_X8_runRow_178 (call : Nat → List Value → qH → qR) (l0 : Nat) (l1 : Nat) (l2 : Value) (l3 : Int32) (l4 : Int32) (l5 : Int32) (l6 : Value) (s0 : Nat) (s1 : Int32) (s2 : Int32) (h : qH) : q_run qm_X8_runRow call 178 [.ref l0, .ref l1, l2, .int l3, .int l4, .int l5, l6] [.int s2, .int s1, .ref s0] h =
  q_pV h (.ref s0) 8 7 (.int (s1 + s2)) fun h1 =>
  q_run qm_X8_runRow call 3 [.ref l0, .ref l1, l2, .int l3, .int l4, .int (l5 + (1 : Int32)), l6] [] h1 := by
  refine (q_cut_eq _ _ [0, 3, 43, 98, 159, 178, 188] 200 _ _ _ _).trans ?_
  rfl
set_option maxRecDepth 20000 in
theorem k_X8_runRow_188 (call : Nat → List Value → qH → qR) (l0 : Value) (l1 : Value) (l2 : Value) (l3 : Value) (l4 : Value) (l5 : Value) (l6 : Value) (h : qH) : q_run qm_X8_runRow call 188 [l0, l1, l2, l3, l4, l5, l6] [] h =
  some (.inl none, h) := by
  refine (q_cut_eq _ _ [0, 3, 43, 98, 159, 178, 188] 200 _ _ _ _).trans ?_
  rfl
set_option maxRecDepth 20000 in
theorem k_X8_isDone_0 (call : Nat → List Value → qH → qR) (l0 : Nat) (l1 : Int32) (l2 : Int32) (l3 : Int32) (h : qH) : q_run qm_X8_isDone call 0 [.ref l0, .int l1, .int l2, .int l3] [] h =
  q_run qm_X8_isDone call 1 [.ref l0, .int l1, .int l2, .int l3] [.int l1] h := by
  refine (q_cut_eq _ _ [0, 1] 200 _ _ _ _).trans ?_
  rfl
set_option maxRecDepth 20000 in
theorem k_X8_isDone_1_c0 (call : Nat → List Value → qH → qR) (l0 : Nat) (l1 : Value) (l2 : Int32) (l3 : Int32) (h : qH) : q_run qm_X8_isDone call 1 [.ref l0, l1, .int l2, .int l3] [.int (0 : Int32)] h =
  q_rcv h (.ref l0) 1 (q_rI (call 39 [.ref l0, .int l2, .int l3, .int (0 : Int32)] h) q_t0 fun x2 h1 =>
  q_boo true x2 fun z => some (.inl (some (.int z)), h1)) := by
  refine (q_cut_eq _ _ [0, 1] 200 _ _ _ _).trans ?_
  rfl
set_option maxRecDepth 20000 in
theorem k_X8_isDone_1_c1 (call : Nat → List Value → qH → qR) (l0 : Nat) (l1 : Value) (l2 : Int32) (l3 : Int32) (h : qH) : q_run qm_X8_isDone call 1 [.ref l0, l1, .int l2, .int l3] [.int (1 : Int32)] h =
  q_rcv h (.ref l0) 1 (q_rI (call 39 [.ref l0, .int l2, .int l3, .int (1 : Int32)] h) q_t0 fun x2 h1 =>
  q_boo true x2 fun z => some (.inl (some (.int z)), h1)) := by
  refine (q_cut_eq _ _ [0, 1] 200 _ _ _ _).trans ?_
  rfl
set_option maxRecDepth 20000 in
theorem k_X8_isDone_1_c2 (call : Nat → List Value → qH → qR) (l0 : Nat) (l1 : Value) (l2 : Int32) (l3 : Int32) (h : qH) : q_run qm_X8_isDone call 1 [.ref l0, l1, .int l2, .int l3] [.int (2 : Int32)] h =
  q_rcv h (.ref l0) 1 (q_rI (call 40 [.ref l0, .int l2] h) q_t0 fun x2 h1 =>
  q_boo true x2 fun z => some (.inl (some (.int z)), h1)) := by
  refine (q_cut_eq _ _ [0, 1] 200 _ _ _ _).trans ?_
  rfl
set_option maxRecDepth 20000 in
theorem k_X8_isDone_1_c3 (call : Nat → List Value → qH → qR) (l0 : Nat) (l1 : Value) (l2 : Int32) (l3 : Int32) (h : qH) : q_run qm_X8_isDone call 1 [.ref l0, l1, .int l2, .int l3] [.int (3 : Int32)] h =
  q_rcv h (.ref l0) 1 (q_rI (call 41 [.ref l0] h) q_t0 fun x2 h1 =>
  q_boo true x2 fun z => some (.inl (some (.int z)), h1)) := by
  refine (q_cut_eq _ _ [0, 1] 200 _ _ _ _).trans ?_
  rfl
set_option maxRecDepth 20000 in
theorem k_X8_isDone_1_d (call : Nat → List Value → qH → qR) (l0 : Nat) (l1 : Value) (l2 : Int32) (l3 : Int32) (s0 : Int32) (h : qH) (hx : s0.toInt < 0 ∨ 3 < s0.toInt) : q_run qm_X8_isDone call 1 [.ref l0, l1, .int l2, .int l3] [.int s0] h =
  q_rcv h (.ref l0) 1 (q_rI (call 42 [.ref l0] h) q_t0 fun x2 h1 =>
  q_boo true x2 fun z => some (.inl (some (.int z)), h1)) := by
  refine (q_cut_eq _ _ [0, 1] 200 _ _ _ _).trans ?_
  exact if_pos hx
set_option maxRecDepth 20000 in
theorem k_X9_init_0 (call : Nat → List Value → qH → qR) (l0 : Nat) (h : qH) : q_run qm_X9_init call 0 [.ref l0] [] h =
  q_nar h 2 (600 : Int32) fun r1 h2 =>
  q_pV h2 (.ref l0) 9 0 (.ref r1) fun h3 =>
  q_pV h3 (.ref l0) 9 7 (.int (-1 : Int32)) fun h4 =>
  some (.inl none, h4) := by
  refine (q_cut_eq _ _ [0] 200 _ _ _ _).trans ?_
  rfl
set_option maxRecDepth 20000 in
theorem k_X9_put_0 (call : Nat → List Value → qH → qR) (l0 : Nat) (l1 : Int32) (h : qH) : q_run qm_X9_put call 0 [.ref l0, .int l1, q_junk] [] h =
  q_run qm_X9_put call 3 [.ref l0, .int l1, .int (24 : Int32)] [] h := by
  refine (q_cut_eq _ _ [0, 3, 49] 200 _ _ _ _).trans ?_
  rfl
set_option maxRecDepth 20000 in
theorem k_X9_put_3 (call : Nat → List Value → qH → qR) (l0 : Nat) (l1 : Int32) (l2 : Int32) (h : qH) : q_run qm_X9_put call 3 [.ref l0, .int l1, .int l2] [] h =
  if q_cmp .lt l2 (0 : Int32) = true then
    some (.inl none, h)
  else
    q_gI h (.ref l0) 9 1 fun x1 =>
    if q_cmp .lt x1 (0 : Int32) = true then
      q_run qm_X9_put call 49 [.ref l0, .int l1, .int l2] [] h
    else
      q_gI h (.ref l0) 9 1 fun x2 =>
      q_gR h (.ref l0) 9 0 fun r3 =>
      q_len h (.ref r3) fun x4 =>
      if q_cmp .ge x2 x4 = true then
        q_run qm_X9_put call 49 [.ref l0, .int l1, .int l2] [] h
      else
        q_gR h (.ref l0) 9 0 fun r5 =>
        q_gI h (.ref l0) 9 1 fun x6 =>
        q_bst h (.ref r5) x6 ((Int32.toInt8 (l1 >>> (l2 &&& 31))).toInt32) fun h7 =>
        q_gI h7 (.ref l0) 9 1 fun x8 =>
        q_pV h7 (.ref l0) 9 1 (.int (x8 + (1 : Int32))) fun h9 =>
        q_run qm_X9_put call 49 [.ref l0, .int l1, .int l2] [] h9 := by
  refine (q_cut_eq _ _ [0, 3, 49] 200 _ _ _ _).trans ?_
  rfl
set_option maxRecDepth 20000 in
theorem k_X9_put_49 (call : Nat → List Value → qH → qR) (l0 : Nat) (l1 : Int32) (l2 : Int32) (h : qH) : q_run qm_X9_put call 49 [.ref l0, .int l1, .int l2] [] h =
  q_run qm_X9_put call 3 [.ref l0, .int l1, .int (l2 + (-8 : Int32))] [] h := by
  refine (q_cut_eq _ _ [0, 3, 49] 200 _ _ _ _).trans ?_
  rfl
set_option maxRecDepth 20000 in
theorem k_X9_open_0 (call : Nat → List Value → qH → qR) (l0 : Nat) (l1 : Int32) (h : qH) : q_run qm_X9_open call 0 [.ref l0, .int l1] [] h =
  q_gI h (.ref l0) 9 1 fun x1 =>
  q_pV h (.ref l0) 9 2 (.int (if x1 < l1 then x1 else l1)) fun h2 =>
  q_pV h2 (.ref l0) 9 3 (.int (0 : Int32)) fun h3 =>
  q_pV h3 (.ref l0) 9 4 (.int (0 : Int32)) fun h4 =>
  q_pV h4 (.ref l0) 9 5 (.int (0 : Int32)) fun h5 =>
  q_pV h5 (.ref l0) 9 6 (.int (0 : Int32)) fun h6 =>
  q_pV h6 (.ref l0) 9 7 (.int (-1 : Int32)) fun h7 =>
  q_pV h7 (.ref l0) 9 1 (.int (0 : Int32)) fun h8 =>
  some (.inl none, h8) := by
  refine (q_cut_eq _ _ [0] 200 _ _ _ _).trans ?_
  rfl
set_option maxRecDepth 20000 in
theorem k_X9_answer_0 (call : Nat → List Value → qH → qR) (l0 : Nat) (h : qH) : q_run qm_X9_answer call 0 [.ref l0] [] h =
  q_gI h (.ref l0) 9 6 fun x1 =>
  some (.inl (some (.int (x1 - (10 : Int32)))), h) := by
  refine (q_cut_eq _ _ [0] 200 _ _ _ _).trans ?_
  rfl
set_option maxRecDepth 20000 in
theorem k_X9_fail_0 (call : Nat → List Value → qH → qR) (l0 : Nat) (l1 : Int32) (l2 : Int32) (h : qH) : q_run qm_X9_fail call 0 [.ref l0, .int l1, .int l2] [] h =
  q_pV h (.ref l0) 9 6 (.int l1) fun h1 =>
  q_pV h1 (.ref l0) 9 7 (.int l2) fun h2 =>
  q_boo true (0 : Int32) fun z => some (.inl (some (.int z)), h2) := by
  refine (q_cut_eq _ _ [0] 200 _ _ _ _).trans ?_
  rfl
set_option maxRecDepth 20000 in
theorem k_X9_peek_0 (call : Nat → List Value → qH → qR) (l0 : Nat) (h : qH) : q_run qm_X9_peek call 0 [.ref l0] [] h =
  q_gI h (.ref l0) 9 3 fun x1 =>
  q_gI h (.ref l0) 9 2 fun x2 =>
  if q_cmp .ge x1 x2 = true then
    q_run qm_X9_peek call 38 [.ref l0] [] h
  else
    q_gR h (.ref l0) 9 0 fun r3 =>
    q_gI h (.ref l0) 9 3 fun x4 =>
    q_bld h (.ref r3) x4 fun x5 =>
    if q_cmp .ne x5 (32 : Int32) = true then
      q_run qm_X9_peek call 38 [.ref l0] [] h
    else
      q_gI h (.ref l0) 9 3 fun x6 =>
      q_pV h (.ref l0) 9 3 (.int (x6 + (1 : Int32))) fun h7 =>
      q_run qm_X9_peek call 0 [.ref l0] [] h7 := by
  refine (q_cut_eq _ _ [0, 38, 74] 200 _ _ _ _).trans ?_
  rfl
set_option maxRecDepth 20000 in
theorem k_X9_peek_38 (call : Nat → List Value → qH → qR) (l0 : Nat) (h : qH) : q_run qm_X9_peek call 38 [.ref l0] [] h =
  q_gI h (.ref l0) 9 3 fun x1 =>
  q_pV h (.ref l0) 9 4 (.int x1) fun h2 =>
  q_gI h2 (.ref l0) 9 3 fun x3 =>
  q_gI h2 (.ref l0) 9 2 fun x4 =>
  if q_cmp .ge x3 x4 = true then
    q_run qm_X9_peek call 74 [.ref l0] [.int (-1 : Int32)] h2
  else
    q_gR h2 (.ref l0) 9 0 fun r5 =>
    q_gI h2 (.ref l0) 9 3 fun x6 =>
    q_bld h2 (.ref r5) x6 fun x7 =>
    q_run qm_X9_peek call 74 [.ref l0] [.int (x7 &&& (255 : Int32))] h2 := by
  refine (q_cut_eq _ _ [0, 38, 74] 200 _ _ _ _).trans ?_
  rfl
set_option maxRecDepth 20000 in
theorem k_X9_peek_74 (call : Nat → List Value → qH → qR) (l0 : Value) (s0 : Int32) (h : qH) : q_run qm_X9_peek call 74 [l0] [.int s0] h =
  some (.inl (some (.int s0)), h) := by
  refine (q_cut_eq _ _ [0, 38, 74] 200 _ _ _ _).trans ?_
  rfl
set_option maxRecDepth 20000 in
theorem k_X9_pass_0 (call : Nat → List Value → qH → qR) (l0 : Nat) (h : qH) : q_run qm_X9_pass call 0 [.ref l0] [] h =
  q_gI h (.ref l0) 9 3 fun x1 =>
  q_pV h (.ref l0) 9 3 (.int (x1 + (1 : Int32))) fun h2 =>
  some (.inl none, h2) := by
  refine (q_cut_eq _ _ [0] 200 _ _ _ _).trans ?_
  rfl
set_option maxRecDepth 20000 in
theorem k_X9_sign_0 (call : Nat → List Value → qH → qR) (l0 : Nat) (l1 : Int32) (h : qH) : q_run qm_X9_sign call 0 [.ref l0, .int l1] [] h =
  q_rcv h (.ref l0) 9 (q_rI (call 105 [.ref l0] h) q_t0 fun x2 h1 =>
  if q_cmp .eq x2 l1 = true then
    q_gI h1 (.ref l0) 9 3 fun x3 =>
    q_pV h1 (.ref l0) 9 3 (.int (x3 + (1 : Int32))) fun h4 =>
    q_boo true (1 : Int32) fun z => some (.inl (some (.int z)), h4)
  else
    q_gI h1 (.ref l0) 9 4 fun x5 =>
    q_rcv h1 (.ref l0) 9 (q_rI (call 104 [.ref l0, .int (1 : Int32), .int x5] h1) q_t0 fun x7 h6 =>
    q_boo true x7 fun z => some (.inl (some (.int z)), h6))) := by
  refine (q_cut_eq _ _ [0] 200 _ _ _ _).trans ?_
  rfl
set_option maxRecDepth 20000 in
theorem k_X9_number_0 (call : Nat → List Value → qH → qR) (l0 : Nat) (l1 : Int32) (l2 : Int32) (h : qH) : q_run qm_X9_number call 0 [.ref l0, .int l1, .int l2, q_junk] [] h =
  q_rcv h (.ref l0) 9 (q_rI (call 105 [.ref l0] h) q_t0 fun x2 h1 =>
  if q_cmp .lt x2 (48 : Int32) = true then
    q_run qm_X9_number call 17 [.ref l0, .int l1, .int l2, .int x2] [] h1
  else
    if q_cmp .le x2 (57 : Int32) = true then
      q_pV h1 (.ref l0) 9 5 (.int (0 : Int32)) fun h3 =>
      q_run qm_X9_number call 32 [.ref l0, .int l1, .int l2, .int x2] [] h3
    else
      q_run qm_X9_number call 17 [.ref l0, .int l1, .int l2, .int x2] [] h1) := by
  refine (q_cut_eq _ _ [0, 17, 32, 113, 129, 141, 146] 200 _ _ _ _).trans ?_
  rfl
set_option maxRecDepth 20000 in
theorem k_X9_number_17 (call : Nat → List Value → qH → qR) (l0 : Nat) (l1 : Value) (l2 : Value) (l3 : Value) (h : qH) : q_run qm_X9_number call 17 [.ref l0, l1, l2, l3] [] h =
  q_gI h (.ref l0) 9 4 fun x1 =>
  q_rcv h (.ref l0) 9 (q_rI (call 104 [.ref l0, .int (1 : Int32), .int x1] h) q_t0 fun x3 h2 =>
  q_boo true x3 fun z => some (.inl (some (.int z)), h2)) := by
  refine (q_cut_eq _ _ [0, 17, 32, 113, 129, 141, 146] 200 _ _ _ _).trans ?_
  rfl
set_option maxRecDepth 20000 in
theorem k_X9_number_32 (call : Nat → List Value → qH → qR) (l0 : Nat) (l1 : Int32) (l2 : Int32) (l3 : Value) (h : qH) : q_run qm_X9_number call 32 [.ref l0, .int l1, .int l2, l3] [] h =
  q_gI h (.ref l0) 9 3 fun x1 =>
  q_gI h (.ref l0) 9 2 fun x2 =>
  if q_cmp .ge x1 x2 = true then
    q_run qm_X9_number call 113 [.ref l0, .int l1, .int l2, l3] [] h
  else
    q_gR h (.ref l0) 9 0 fun r3 =>
    q_gI h (.ref l0) 9 3 fun x4 =>
    q_bld h (.ref r3) x4 fun x5 =>
    if q_cmp .lt x5 (48 : Int32) = true then
      q_run qm_X9_number call 113 [.ref l0, .int l1, .int l2, l3] [] h
    else
      q_gR h (.ref l0) 9 0 fun r6 =>
      q_gI h (.ref l0) 9 3 fun x7 =>
      q_bld h (.ref r6) x7 fun x8 =>
      if q_cmp .gt x8 (57 : Int32) = true then
        q_run qm_X9_number call 113 [.ref l0, .int l1, .int l2, l3] [] h
      else
        q_gI h (.ref l0) 9 5 fun x9 =>
        q_gR h (.ref l0) 9 0 fun r10 =>
        q_gI h (.ref l0) 9 3 fun x11 =>
        q_bld h (.ref r10) x11 fun x12 =>
        q_pV h (.ref l0) 9 5 (.int (if (1000000 : Int32) < ((x9 * (10 : Int32)) + (x12 - (48 : Int32))) then (1000000 : Int32) else ((x9 * (10 : Int32)) + (x12 - (48 : Int32))))) fun h13 =>
        q_gI h13 (.ref l0) 9 3 fun x14 =>
        q_pV h13 (.ref l0) 9 3 (.int (x14 + (1 : Int32))) fun h15 =>
        q_run qm_X9_number call 32 [.ref l0, .int l1, .int l2, l3] [] h15 := by
  refine (q_cut_eq _ _ [0, 17, 32, 113, 129, 141, 146] 200 _ _ _ _).trans ?_
  rfl
set_option maxRecDepth 20000 in
theorem k_X9_number_113 (call : Nat → List Value → qH → qR) (l0 : Nat) (l1 : Int32) (l2 : Int32) (l3 : Value) (h : qH) : q_run qm_X9_number call 113 [.ref l0, .int l1, .int l2, l3] [] h =
  q_gI h (.ref l0) 9 5 fun x1 =>
  if q_cmp .lt x1 l1 = true then
    q_run qm_X9_number call 129 [.ref l0, .int l1, .int l2, l3] [] h
  else
    q_gI h (.ref l0) 9 5 fun x2 =>
    if q_cmp .le x2 l2 = true then
      q_run qm_X9_number call 141 [.ref l0, .int l1, .int l2, l3] [] h
    else
      q_run qm_X9_number call 129 [.ref l0, .int l1, .int l2, l3] [] h := by
  refine (q_cut_eq _ _ [0, 17, 32, 113, 129, 141, 146] 200 _ _ _ _).trans ?_
  rfl
set_option maxRecDepth 20000 in
theorem k_X9_number_129 (call : Nat → List Value → qH → qR) (l0 : Nat) (l1 : Value) (l2 : Value) (l3 : Value) (h : qH) : q_run qm_X9_number call 129 [.ref l0, l1, l2, l3] [] h =
  q_gI h (.ref l0) 9 4 fun x1 =>
  q_rcv h (.ref l0) 9 (q_rI (call 104 [.ref l0, .int (2 : Int32), .int x1] h) q_t0 fun x3 h2 =>
  if q_cmp .eq x3 (0 : Int32) = true then
    q_run qm_X9_number call 146 [.ref l0, l1, l2, l3] [.int (0 : Int32)] h2
  else
    q_run qm_X9_number call 141 [.ref l0, l1, l2, l3] [] h2) := by
  refine (q_cut_eq _ _ [0, 17, 32, 113, 129, 141, 146] 200 _ _ _ _).trans ?_
  rfl
set_option maxRecDepth 20000 in
theorem k_X9_number_141 (call : Nat → List Value → qH → qR) (l0 : Value) (l1 : Value) (l2 : Value) (l3 : Value) (h : qH) : q_run qm_X9_number call 141 [l0, l1, l2, l3] [] h =
  q_run qm_X9_number call 146 [l0, l1, l2, l3] [.int (1 : Int32)] h := by
  refine (q_cut_eq _ _ [0, 17, 32, 113, 129, 141, 146] 200 _ _ _ _).trans ?_
  rfl
set_option maxRecDepth 20000 in
theorem k_X9_number_146 (call : Nat → List Value → qH → qR) (l0 : Value) (l1 : Value) (l2 : Value) (l3 : Value) (s0 : Int32) (h : qH) : q_run qm_X9_number call 146 [l0, l1, l2, l3] [.int s0] h =
  q_boo true s0 fun z => some (.inl (some (.int z)), h) := by
  refine (q_cut_eq _ _ [0, 17, 32, 113, 129, 141, 146] 200 _ _ _ _).trans ?_
  rfl
set_option maxRecDepth 20000 in
theorem k_X9_word_0 (call : Nat → List Value → qH → qR) (l0 : Nat) (h : qH) : q_run qm_X9_word call 0 [.ref l0] [] h =
  q_rcv h (.ref l0) 9 (q_rI (call 105 [.ref l0] h) q_t0 fun x2 h1 =>
  q_run qm_X9_word call 5 [.ref l0] [] h1) := by
  refine (q_cut_eq _ _ [0, 5, 57, 80, 85] 200 _ _ _ _).trans ?_
  rfl
set_option maxRecDepth 20000 in
theorem k_X9_word_5 (call : Nat → List Value → qH → qR) (l0 : Nat) (h : qH) : q_run qm_X9_word call 5 [.ref l0] [] h =
  q_gI h (.ref l0) 9 3 fun x1 =>
  q_gI h (.ref l0) 9 2 fun x2 =>
  if q_cmp .ge x1 x2 = true then
    q_run qm_X9_word call 57 [.ref l0] [] h
  else
    q_gR h (.ref l0) 9 0 fun r3 =>
    q_gI h (.ref l0) 9 3 fun x4 =>
    q_bld h (.ref r3) x4 fun x5 =>
    if q_cmp .lt x5 (97 : Int32) = true then
      q_run qm_X9_word call 57 [.ref l0] [] h
    else
      q_gR h (.ref l0) 9 0 fun r6 =>
      q_gI h (.ref l0) 9 3 fun x7 =>
      q_bld h (.ref r6) x7 fun x8 =>
      if q_cmp .gt x8 (122 : Int32) = true then
        q_run qm_X9_word call 57 [.ref l0] [] h
      else
        q_gI h (.ref l0) 9 3 fun x9 =>
        q_pV h (.ref l0) 9 3 (.int (x9 + (1 : Int32))) fun h10 =>
        q_run qm_X9_word call 5 [.ref l0] [] h10 := by
  refine (q_cut_eq _ _ [0, 5, 57, 80, 85] 200 _ _ _ _).trans ?_
  rfl
set_option maxRecDepth 20000 in
theorem k_X9_word_57 (call : Nat → List Value → qH → qR) (l0 : Nat) (h : qH) : q_run qm_X9_word call 57 [.ref l0] [] h =
  q_gI h (.ref l0) 9 3 fun x1 =>
  q_gI h (.ref l0) 9 4 fun x2 =>
  if q_cmp .gt x1 x2 = true then
    q_run qm_X9_word call 80 [.ref l0] [] h
  else
    q_gI h (.ref l0) 9 4 fun x3 =>
    q_rcv h (.ref l0) 9 (q_rI (call 104 [.ref l0, .int (1 : Int32), .int x3] h) q_t0 fun x5 h4 =>
    if q_cmp .eq x5 (0 : Int32) = true then
      q_run qm_X9_word call 85 [.ref l0] [.int (0 : Int32)] h4
    else
      q_run qm_X9_word call 80 [.ref l0] [] h4) := by
  refine (q_cut_eq _ _ [0, 5, 57, 80, 85] 200 _ _ _ _).trans ?_
  rfl
set_option maxRecDepth 20000 in
theorem k_X9_word_80 (call : Nat → List Value → qH → qR) (l0 : Value) (h : qH) : q_run qm_X9_word call 80 [l0] [] h =
  q_run qm_X9_word call 85 [l0] [.int (1 : Int32)] h := by
  refine (q_cut_eq _ _ [0, 5, 57, 80, 85] 200 _ _ _ _).trans ?_
  rfl
set_option maxRecDepth 20000 in
theorem k_X9_word_85 (call : Nat → List Value → qH → qR) (l0 : Value) (s0 : Int32) (h : qH) : q_run qm_X9_word call 85 [l0] [.int s0] h =
  q_boo true s0 fun z => some (.inl (some (.int z)), h) := by
  refine (q_cut_eq _ _ [0, 5, 57, 80, 85] 200 _ _ _ _).trans ?_
  rfl
set_option maxRecDepth 20000 in
theorem k_X9_wordIs_0 (call : Nat → List Value → qH → qR) (l0 : Nat) (l1 : UInt32) (h : qH) : q_run qm_X9_wordIs call 0 [.ref l0, .float l1, q_junk, q_junk] [] h =
  q_slen (.float l1) fun x1 =>
  q_gI h (.ref l0) 9 3 fun x2 =>
  q_gI h (.ref l0) 9 4 fun x3 =>
  if q_cmp .eq (x2 - x3) x1 = true then
    q_run qm_X9_wordIs call 22 [.ref l0, .float l1, .int x1, .int (0 : Int32)] [] h
  else
    q_boo true (0 : Int32) fun z => some (.inl (some (.int z)), h) := by
  refine (q_cut_eq _ _ [0, 22] 200 _ _ _ _).trans ?_
  rfl
set_option maxRecDepth 20000 in
theorem k_X9_wordIs_22 (call : Nat → List Value → qH → qR) (l0 : Nat) (l1 : UInt32) (l2 : Int32) (l3 : Int32) (h : qH) : q_run qm_X9_wordIs call 22 [.ref l0, .float l1, .int l2, .int l3] [] h =
  if q_cmp .ge l3 l2 = true then
    q_boo true (1 : Int32) fun z => some (.inl (some (.int z)), h)
  else
    q_gR h (.ref l0) 9 0 fun r1 =>
    q_gI h (.ref l0) 9 4 fun x2 =>
    q_bld h (.ref r1) (x2 + l3) fun x3 =>
    q_schr (.float l1) l3 fun x4 =>
    if q_cmp .eq x3 x4 = true then
      q_run qm_X9_wordIs call 22 [.ref l0, .float l1, .int l2, .int (l3 + (1 : Int32))] [] h
    else
      q_boo true (0 : Int32) fun z => some (.inl (some (.int z)), h) := by
  refine (q_cut_eq _ _ [0, 22] 200 _ _ _ _).trans ?_
  rfl
set_option maxRecDepth 20000 in
theorem k_X9_allow_0 (call : Nat → List Value → qH → qR) (l0 : Nat) (l1 : Int32) (h : qH) : q_run qm_X9_allow call 0 [.ref l0, .int l1] [] h =
  if q_cmp .ne l1 (0 : Int32) = true then
    q_run qm_X9_allow call 16 [.ref l0, .int l1] [] h
  else
    q_gI h (.ref l0) 9 4 fun x1 =>
    q_rcv h (.ref l0) 9 (q_rI (call 104 [.ref l0, .int (3 : Int32), .int x1] h) q_t0 fun x3 h2 =>
    if q_cmp .eq x3 (0 : Int32) = true then
      q_run qm_X9_allow call 21 [.ref l0, .int l1] [.int (0 : Int32)] h2
    else
      q_run qm_X9_allow call 16 [.ref l0, .int l1] [] h2) := by
  refine (q_cut_eq _ _ [0, 16, 21] 200 _ _ _ _).trans ?_
  rfl
set_option maxRecDepth 20000 in
theorem k_X9_allow_16 (call : Nat → List Value → qH → qR) (l0 : Value) (l1 : Value) (h : qH) : q_run qm_X9_allow call 16 [l0, l1] [] h =
  q_run qm_X9_allow call 21 [l0, l1] [.int (1 : Int32)] h := by
  refine (q_cut_eq _ _ [0, 16, 21] 200 _ _ _ _).trans ?_
  rfl
set_option maxRecDepth 20000 in
theorem k_X9_allow_21 (call : Nat → List Value → qH → qR) (l0 : Value) (l1 : Value) (s0 : Int32) (h : qH) : q_run qm_X9_allow call 21 [l0, l1] [.int s0] h =
  q_boo true s0 fun z => some (.inl (some (.int z)), h) := by
  refine (q_cut_eq _ _ [0, 16, 21] 200 _ _ _ _).trans ?_
  rfl
set_option maxRecDepth 20000 in
theorem k_J6_bitCount_0f7a4_0 (call : Nat → List Value → qH → qR) (l0 : Int32) (h : qH) : q_run qm_J6_bitCount_0f7a4 call 0 [.int l0] [] h =
  some (.inl (some (.int ((((((((l0 - (((Int32.toUInt32 l0 >>> (Int32.toUInt32 (1 : Int32) &&& Int32.toUInt32 31)).toInt32) &&& (1431655765 : Int32))) &&& (858993459 : Int32)) + (((Int32.toUInt32 (l0 - (((Int32.toUInt32 l0 >>> (Int32.toUInt32 (1 : Int32) &&& Int32.toUInt32 31)).toInt32) &&& (1431655765 : Int32))) >>> (Int32.toUInt32 (2 : Int32) &&& Int32.toUInt32 31)).toInt32) &&& (858993459 : Int32))) + ((Int32.toUInt32 (((l0 - (((Int32.toUInt32 l0 >>> (Int32.toUInt32 (1 : Int32) &&& Int32.toUInt32 31)).toInt32) &&& (1431655765 : Int32))) &&& (858993459 : Int32)) + (((Int32.toUInt32 (l0 - (((Int32.toUInt32 l0 >>> (Int32.toUInt32 (1 : Int32) &&& Int32.toUInt32 31)).toInt32) &&& (1431655765 : Int32))) >>> (Int32.toUInt32 (2 : Int32) &&& Int32.toUInt32 31)).toInt32) &&& (858993459 : Int32))) >>> (Int32.toUInt32 (4 : Int32) &&& Int32.toUInt32 31)).toInt32)) &&& (252645135 : Int32)) + ((Int32.toUInt32 (((((l0 - (((Int32.toUInt32 l0 >>> (Int32.toUInt32 (1 : Int32) &&& Int32.toUInt32 31)).toInt32) &&& (1431655765 : Int32))) &&& (858993459 : Int32)) + (((Int32.toUInt32 (l0 - (((Int32.toUInt32 l0 >>> (Int32.toUInt32 (1 : Int32) &&& Int32.toUInt32 31)).toInt32) &&& (1431655765 : Int32))) >>> (Int32.toUInt32 (2 : Int32) &&& Int32.toUInt32 31)).toInt32) &&& (858993459 : Int32))) + ((Int32.toUInt32 (((l0 - (((Int32.toUInt32 l0 >>> (Int32.toUInt32 (1 : Int32) &&& Int32.toUInt32 31)).toInt32) &&& (1431655765 : Int32))) &&& (858993459 : Int32)) + (((Int32.toUInt32 (l0 - (((Int32.toUInt32 l0 >>> (Int32.toUInt32 (1 : Int32) &&& Int32.toUInt32 31)).toInt32) &&& (1431655765 : Int32))) >>> (Int32.toUInt32 (2 : Int32) &&& Int32.toUInt32 31)).toInt32) &&& (858993459 : Int32))) >>> (Int32.toUInt32 (4 : Int32) &&& Int32.toUInt32 31)).toInt32)) &&& (252645135 : Int32)) >>> (Int32.toUInt32 (8 : Int32) &&& Int32.toUInt32 31)).toInt32)) + ((Int32.toUInt32 ((((((l0 - (((Int32.toUInt32 l0 >>> (Int32.toUInt32 (1 : Int32) &&& Int32.toUInt32 31)).toInt32) &&& (1431655765 : Int32))) &&& (858993459 : Int32)) + (((Int32.toUInt32 (l0 - (((Int32.toUInt32 l0 >>> (Int32.toUInt32 (1 : Int32) &&& Int32.toUInt32 31)).toInt32) &&& (1431655765 : Int32))) >>> (Int32.toUInt32 (2 : Int32) &&& Int32.toUInt32 31)).toInt32) &&& (858993459 : Int32))) + ((Int32.toUInt32 (((l0 - (((Int32.toUInt32 l0 >>> (Int32.toUInt32 (1 : Int32) &&& Int32.toUInt32 31)).toInt32) &&& (1431655765 : Int32))) &&& (858993459 : Int32)) + (((Int32.toUInt32 (l0 - (((Int32.toUInt32 l0 >>> (Int32.toUInt32 (1 : Int32) &&& Int32.toUInt32 31)).toInt32) &&& (1431655765 : Int32))) >>> (Int32.toUInt32 (2 : Int32) &&& Int32.toUInt32 31)).toInt32) &&& (858993459 : Int32))) >>> (Int32.toUInt32 (4 : Int32) &&& Int32.toUInt32 31)).toInt32)) &&& (252645135 : Int32)) + ((Int32.toUInt32 (((((l0 - (((Int32.toUInt32 l0 >>> (Int32.toUInt32 (1 : Int32) &&& Int32.toUInt32 31)).toInt32) &&& (1431655765 : Int32))) &&& (858993459 : Int32)) + (((Int32.toUInt32 (l0 - (((Int32.toUInt32 l0 >>> (Int32.toUInt32 (1 : Int32) &&& Int32.toUInt32 31)).toInt32) &&& (1431655765 : Int32))) >>> (Int32.toUInt32 (2 : Int32) &&& Int32.toUInt32 31)).toInt32) &&& (858993459 : Int32))) + ((Int32.toUInt32 (((l0 - (((Int32.toUInt32 l0 >>> (Int32.toUInt32 (1 : Int32) &&& Int32.toUInt32 31)).toInt32) &&& (1431655765 : Int32))) &&& (858993459 : Int32)) + (((Int32.toUInt32 (l0 - (((Int32.toUInt32 l0 >>> (Int32.toUInt32 (1 : Int32) &&& Int32.toUInt32 31)).toInt32) &&& (1431655765 : Int32))) >>> (Int32.toUInt32 (2 : Int32) &&& Int32.toUInt32 31)).toInt32) &&& (858993459 : Int32))) >>> (Int32.toUInt32 (4 : Int32) &&& Int32.toUInt32 31)).toInt32)) &&& (252645135 : Int32)) >>> (Int32.toUInt32 (8 : Int32) &&& Int32.toUInt32 31)).toInt32)) >>> (Int32.toUInt32 (16 : Int32) &&& Int32.toUInt32 31)).toInt32)) &&& (63 : Int32)))), h) := by
  refine (q_cut_eq _ _ [0] 200 _ _ _ _).trans ?_
  rfl
