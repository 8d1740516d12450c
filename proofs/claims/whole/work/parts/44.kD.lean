set_option maxRecDepth 20000 in
theorem k_X10_init_0 (call : Nat → List Value → qH → qR) (l0 : Nat) (h : qH) : q_run qm_X10_init call 0 [.ref l0] [] h =
  q_rcv ((h ++ [.inr (9, [.null, .int 0, .int 0, .int 0, .int 0, .int 0, .int 0, .int 0])])) (.ref (List.length h)) 9 (q_rV (call 100 [.ref (List.length h)] ((h ++ [.inr (9, [.null, .int 0, .int 0, .int 0, .int 0, .int 0, .int 0, .int 0])]))) (fun _ _ _ => none) fun h1 =>
  q_pV h1 (.ref l0) 10 0 (.ref (List.length h)) fun h2 =>
  q_rcv ((h2 ++ [.inr (6, [.int 0, .int 0, .int 0, .int 0, .int 0, .null, .null, .null, .null, .null, .null])])) (.ref (List.length h2)) 6 (q_rV (call 74 [.ref (List.length h2)] ((h2 ++ [.inr (6, [.int 0, .int 0, .int 0, .int 0, .int 0, .null, .null, .null, .null, .null, .null])]))) (fun _ _ _ => none) fun h3 =>
  q_pV h3 (.ref l0) 10 1 (.ref (List.length h2)) fun h4 =>
  q_rcv ((h4 ++ [.inr (6, [.int 0, .int 0, .int 0, .int 0, .int 0, .null, .null, .null, .null, .null, .null])])) (.ref (List.length h4)) 6 (q_rV (call 74 [.ref (List.length h4)] ((h4 ++ [.inr (6, [.int 0, .int 0, .int 0, .int 0, .int 0, .null, .null, .null, .null, .null, .null])]))) (fun _ _ _ => none) fun h5 =>
  q_pV h5 (.ref l0) 10 2 (.ref (List.length h4)) fun h6 =>
  q_run qm_X10_init call 37 [.ref l0] [] h6))) := by
  refine (q_cut_eq _ _ [0, 37, 86, 139, 177] 200 _ _ _ _).trans ?_
  rfl
set_option maxRecDepth 20000 in
theorem k_X10_init_37 (call : Nat → List Value → qH → qR) (l0 : Nat) (h : qH) : q_run qm_X10_init call 37 [.ref l0] [] h =
  q_rcv ((h ++ [.inr (5, [.null, .null, .null, .null, .int 0, .int 0])])) (.ref (List.length h)) 5 (q_rV (call 63 [.ref (List.length h)] ((h ++ [.inr (5, [.null, .null, .null, .null, .int 0, .int 0])]))) (fun _ _ _ => none) fun h1 =>
  q_pV h1 (.ref l0) 10 3 (.ref (List.length h)) fun h2 =>
  q_gR ((h2 ++ [.inr (1, [.null, .null, .null, .null, .null, .null, .null, .int 0, .int 0])])) (.ref l0) 10 1 fun r3 =>
  q_gR ((h2 ++ [.inr (1, [.null, .null, .null, .null, .null, .null, .null, .int 0, .int 0])])) (.ref l0) 10 3 fun r4 =>
  q_rcv ((h2 ++ [.inr (1, [.null, .null, .null, .null, .null, .null, .null, .int 0, .int 0])])) (.ref (List.length h2)) 1 (q_rV (call 18 [.ref (List.length h2), .ref r3, .ref r4] ((h2 ++ [.inr (1, [.null, .null, .null, .null, .null, .null, .null, .int 0, .int 0])]))) (fun _ _ _ => none) fun h5 =>
  q_pV h5 (.ref l0) 10 6 (.ref (List.length h2)) fun h6 =>
  q_gR ((h6 ++ [.inr (1, [.null, .null, .null, .null, .null, .null, .null, .int 0, .int 0])])) (.ref l0) 10 1 fun r7 =>
  q_gR ((h6 ++ [.inr (1, [.null, .null, .null, .null, .null, .null, .null, .int 0, .int 0])])) (.ref l0) 10 3 fun r8 =>
  q_rcv ((h6 ++ [.inr (1, [.null, .null, .null, .null, .null, .null, .null, .int 0, .int 0])])) (.ref (List.length h6)) 1 (q_rV (call 18 [.ref (List.length h6), .ref r7, .ref r8] ((h6 ++ [.inr (1, [.null, .null, .null, .null, .null, .null, .null, .int 0, .int 0])]))) (fun _ _ _ => none) fun h9 =>
  q_pV h9 (.ref l0) 10 7 (.ref (List.length h6)) fun h10 =>
  q_run qm_X10_init call 86 [.ref l0] [] h10))) := by
  refine (q_cut_eq _ _ [0, 37, 86, 139, 177] 200 _ _ _ _).trans ?_
  rfl
set_option maxRecDepth 20000 in
theorem k_X10_init_86 (call : Nat → List Value → qH → qR) (l0 : Nat) (h : qH) : q_run qm_X10_init call 86 [.ref l0] [] h =
  q_gR ((h ++ [.inr (2, [.null, .null, .null, .null, .null, .null, .int 0, .int 0, .int 0, .int 0, .int 0])])) (.ref l0) 10 6 fun r1 =>
  q_gR ((h ++ [.inr (2, [.null, .null, .null, .null, .null, .null, .int 0, .int 0, .int 0, .int 0, .int 0])])) (.ref l0) 10 3 fun r2 =>
  q_rcv ((h ++ [.inr (2, [.null, .null, .null, .null, .null, .null, .int 0, .int 0, .int 0, .int 0, .int 0])])) (.ref (List.length h)) 2 (q_rV (call 45 [.ref (List.length h), .ref r1, .ref r2] ((h ++ [.inr (2, [.null, .null, .null, .null, .null, .null, .int 0, .int 0, .int 0, .int 0, .int 0])]))) (fun _ _ _ => none) fun h3 =>
  q_pV h3 (.ref l0) 10 4 (.ref (List.length h)) fun h4 =>
  q_rcv ((h4 ++ [.inr (8, [.null, .null, .null, .int 0, .int 0, .int 0, .int 0, .int 0])])) (.ref (List.length h4)) 8 (q_rV (call 90 [.ref (List.length h4)] ((h4 ++ [.inr (8, [.null, .null, .null, .int 0, .int 0, .int 0, .int 0, .int 0])]))) (fun _ _ _ => none) fun h5 =>
  q_pV h5 (.ref l0) 10 5 (.ref (List.length h4)) fun h6 =>
  q_gR ((h6 ++ [.inr (0, [.null, .null, .null, .null, .null, .null, .null, .null, .int 0, .int 0, .int 0, .int 0, .int 0])])) (.ref l0) 10 1 fun r7 =>
  q_gR ((h6 ++ [.inr (0, [.null, .null, .null, .null, .null, .null, .null, .null, .int 0, .int 0, .int 0, .int 0, .int 0])])) (.ref l0) 10 6 fun r8 =>
  q_gR ((h6 ++ [.inr (0, [.null, .null, .null, .null, .null, .null, .null, .null, .int 0, .int 0, .int 0, .int 0, .int 0])])) (.ref l0) 10 3 fun r9 =>
  q_rcv ((h6 ++ [.inr (0, [.null, .null, .null, .null, .null, .null, .null, .null, .int 0, .int 0, .int 0, .int 0, .int 0])])) (.ref (List.length h6)) 0 (q_rV (call 0 [.ref (List.length h6), .ref r7, .ref r8, .ref r9] ((h6 ++ [.inr (0, [.null, .null, .null, .null, .null, .null, .null, .null, .int 0, .int 0, .int 0, .int 0, .int 0])]))) (fun _ _ _ => none) fun h10 =>
  q_pV h10 (.ref l0) 10 8 (.ref (List.length h6)) fun h11 =>
  q_run qm_X10_init call 139 [.ref l0] [] h11))) := by
  refine (q_cut_eq _ _ [0, 37, 86, 139, 177] 200 _ _ _ _).trans ?_
  rfl
set_option maxRecDepth 20000 in
theorem k_X10_init_139 (call : Nat → List Value → qH → qR) (l0 : Nat) (h : qH) : q_run qm_X10_init call 139 [.ref l0] [] h =
  q_gR ((h ++ [.inr (3, [.null, .null, .null, .null, .null, .null, .int 0, .int 0, .int 0, .int 0])])) (.ref l0) 10 1 fun r1 =>
  q_gR ((h ++ [.inr (3, [.null, .null, .null, .null, .null, .null, .int 0, .int 0, .int 0, .int 0])])) (.ref l0) 10 6 fun r2 =>
  q_rcv ((h ++ [.inr (3, [.null, .null, .null, .null, .null, .null, .int 0, .int 0, .int 0, .int 0])])) (.ref (List.length h)) 3 (q_rV (call 54 [.ref (List.length h), .ref r1, .ref r2] ((h ++ [.inr (3, [.null, .null, .null, .null, .null, .null, .int 0, .int 0, .int 0, .int 0])]))) (fun _ _ _ => none) fun h3 =>
  q_pV h3 (.ref l0) 10 9 (.ref (List.length h)) fun h4 =>
  q_gR ((h4 ++ [.inr (7, [.null, .null, .int 0, .int 0])])) (.ref l0) 10 1 fun r5 =>
  q_gR ((h4 ++ [.inr (7, [.null, .null, .int 0, .int 0])])) (.ref l0) 10 7 fun r6 =>
  q_rcv ((h4 ++ [.inr (7, [.null, .null, .int 0, .int 0])])) (.ref (List.length h4)) 7 (q_rV (call 87 [.ref (List.length h4), .ref r5, .ref r6] ((h4 ++ [.inr (7, [.null, .null, .int 0, .int 0])]))) (fun _ _ _ => none) fun h7 =>
  q_pV h7 (.ref l0) 10 10 (.ref (List.length h4)) fun h8 =>
  q_run qm_X10_init call 177 [.ref l0] [] h8)) := by
  refine (q_cut_eq _ _ [0, 37, 86, 139, 177] 200 _ _ _ _).trans ?_
  rfl
set_option maxRecDepth 20000 in
theorem k_X10_init_177 (call : Nat → List Value → qH → qR) (l0 : Nat) (h : qH) : q_run qm_X10_init call 177 [.ref l0] [] h =
  q_nar h 4 (3 : Int32) fun r1 h2 =>
  q_pV h2 (.ref l0) 10 11 (.ref r1) fun h3 =>
  q_nar h3 0 (37 : Int32) fun r4 h5 =>
  q_pV h5 (.ref l0) 10 12 (.ref r4) fun h6 =>
  q_pV h6 (.ref l0) 10 13 (.null) fun h7 =>
  some (.inl none, h7) := by
  refine (q_cut_eq _ _ [0, 37, 86, 139, 177] 200 _ _ _ _).trans ?_
  rfl
set_option maxRecDepth 20000 in
theorem k_X10_feed_0 (call : Nat → List Value → qH → qR) (l0 : Nat) (l1 : Int32) (l2 : Int32) (l3 : Int32) (l4 : Int32) (l5 : Int32) (h : qH) : q_run qm_X10_feed call 0 [.ref l0, .int l1, .int l2, .int l3, .int l4, .int l5] [] h =
  q_gR h (.ref l0) 10 0 fun r1 =>
  q_gI h (.ref r1) 9 1 fun x2 =>
  if q_cmp .le (x2 + (20 : Int32)) (600 : Int32) = true then
    q_gR h (.ref l0) 10 0 fun r3 =>
    q_rcv h (.ref r3) 9 (q_rV (call 101 [.ref r3, .int l1] h) q_t0 fun h4 =>
    q_gR h4 (.ref l0) 10 0 fun r6 =>
    q_rcv h4 (.ref r6) 9 (q_rV (call 101 [.ref r6, .int l2] h4) q_t0 fun h7 =>
    q_gR h7 (.ref l0) 10 0 fun r9 =>
    q_rcv h7 (.ref r9) 9 (q_rV (call 101 [.ref r9, .int l3] h7) q_t0 fun h10 =>
    q_gR h10 (.ref l0) 10 0 fun r12 =>
    q_rcv h10 (.ref r12) 9 (q_rV (call 101 [.ref r12, .int l4] h10) q_t0 fun h13 =>
    q_gR h13 (.ref l0) 10 0 fun r15 =>
    q_rcv h13 (.ref r15) 9 (q_rV (call 101 [.ref r15, .int l5] h13) q_t0 fun h16 =>
    q_gR h16 (.ref l0) 10 0 fun r18 =>
    q_gI h16 (.ref r18) 9 1 fun x19 =>
    some (.inl (some (.int x19)), h16))))))
  else
    some (.inl (some (.int (-1 : Int32))), h) := by
  refine (q_cut_eq _ _ [0] 200 _ _ _ _).trans ?_
  rfl
set_option maxRecDepth 20000 in
theorem k_X10_room_0 (call : Nat → List Value → qH → qR) (l0 : Nat) (l1 : Int32) (h : qH) : q_run qm_X10_room call 0 [.ref l0, .int l1] [] h =
  q_rcv h (.ref l0) 10 (q_rV (call 153 [.ref l0, .int l1, .int (600 : Int32)] h) q_t0 fun h1 =>
  q_gR h1 (.ref l0) 10 2 fun r3 =>
  q_gR h1 (.ref l0) 10 0 fun r4 =>
  q_rcv h1 (.ref r3) 6 (q_rI (call 79 [.ref r3, .ref r4] h1) q_t0 fun x6 h5 =>
  if q_cmp .ne x6 (0 : Int32) = true then
    q_gR h5 (.ref l0) 10 1 fun r7 =>
    q_gR h5 (.ref l0) 10 2 fun r8 =>
    q_rcv h5 (.ref r7) 6 (q_rV (call 76 [.ref r7, .ref r8] h5) q_t0 fun h9 =>
    q_gR h9 (.ref l0) 10 3 fun r11 =>
    q_rcv h9 (.ref r11) 5 (q_rV (call 64 [.ref r11] h9) q_t0 fun h12 =>
    q_gR h12 (.ref l0) 10 4 fun r14 =>
    q_rcv h12 (.ref r14) 2 (q_rV (call 46 [.ref r14] h12) q_t0 fun h15 =>
    q_gR h15 (.ref l0) 10 6 fun r17 =>
    q_rcv h15 (.ref r17) 1 (q_rV (call 19 [.ref r17] h15) q_t0 fun h18 =>
    q_pV h18 (.ref l0) 10 13 (.null) fun h20 =>
    q_pV h20 (.ref l0) 10 14 (.int (0 : Int32)) fun h21 =>
    q_pV h21 (.ref l0) 10 15 (.int (0 : Int32)) fun h22 =>
    q_gR h22 (.ref l0) 10 1 fun r23 =>
    q_gI h22 (.ref r23) 6 1 fun x24 =>
    some (.inl (some (.int x24)), h22)))))
  else
    q_gR h5 (.ref l0) 10 0 fun r25 =>
    q_rcv h5 (.ref r25) 9 (q_rI (call 103 [.ref r25] h5) q_t0 fun x27 h26 =>
    some (.inl (some (.int x27)), h26)))) := by
  refine (q_cut_eq _ _ [0] 200 _ _ _ _).trans ?_
  rfl
set_option maxRecDepth 20000 in
theorem k_X10_law_0 (call : Nat → List Value → qH → qR) (l0 : Nat) (l1 : Int32) (h : qH) : q_run qm_X10_law call 0 [.ref l0, .int l1] [] h =
  q_rcv h (.ref l0) 10 (q_rV (call 153 [.ref l0, .int l1, .int (150 : Int32)] h) q_t0 fun h1 =>
  q_gR h1 (.ref l0) 10 3 fun r3 =>
  q_gR h1 (.ref l0) 10 0 fun r4 =>
  q_rcv h1 (.ref r3) 5 (q_rI (call 65 [.ref r3, .ref r4] h1) q_t0 fun x6 h5 =>
  if q_cmp .eq x6 (0 : Int32) = true then
    q_gR h5 (.ref l0) 10 0 fun r7 =>
    q_rcv h5 (.ref r7) 9 (q_rI (call 103 [.ref r7] h5) q_t0 fun x9 h8 =>
    q_run qm_X10_law call 33 [.ref l0, .int l1] [.int x9] h8)
  else
    q_run qm_X10_law call 33 [.ref l0, .int l1] [.int (1 : Int32)] h5)) := by
  refine (q_cut_eq _ _ [0, 33] 200 _ _ _ _).trans ?_
  rfl
set_option maxRecDepth 20000 in
theorem k_X10_law_33 (call : Nat → List Value → qH → qR) (l0 : Value) (l1 : Value) (s0 : Int32) (h : qH) : q_run qm_X10_law call 33 [l0, l1] [.int s0] h =
  some (.inl (some (.int s0)), h) := by
  refine (q_cut_eq _ _ [0, 33] 200 _ _ _ _).trans ?_
  rfl
set_option maxRecDepth 20000 in
theorem k_X10_play_0 (call : Nat → List Value → qH → qR) (l0 : Nat) (l1 : Int32) (h : qH) : q_run qm_X10_play call 0 [.ref l0, .int l1] [] h =
  q_rcv h (.ref l0) 10 (q_rV (call 153 [.ref l0, .int l1, .int (150 : Int32)] h) q_t0 fun h1 =>
  q_rcv h1 (.ref l0) 10 (q_rI (call 149 [.ref l0] h1) q_t0 fun x4 h3 =>
  if q_cmp .lt x4 (16 : Int32) = true then
    q_gR h3 (.ref l0) 10 5 fun r5 =>
    q_gR h3 (.ref l0) 10 0 fun r6 =>
    q_gR h3 (.ref l0) 10 1 fun r7 =>
    q_gI h3 (.ref r7) 6 1 fun x8 =>
    q_rcv h3 (.ref r5) 8 (q_rI (call 91 [.ref r5, .ref r6, .int x8] h3) q_t0 fun x10 h9 =>
    if q_cmp .ne x10 (0 : Int32) = true then
      q_rcv h9 (.ref l0) 10 (q_rR (call 150 [.ref l0] h9) q_t0 fun vr12 h11 =>
      q_pV h11 (.ref l0) 10 13 (vr12) fun h13 =>
      q_gR h13 (.ref l0) 10 5 fun r14 =>
      q_gR h13 (.ref l0) 10 6 fun r15 =>
      q_rcv h13 (.ref r14) 8 (q_rV (call 97 [.ref r14, .ref r15] h13) q_t0 fun h16 =>
      q_gR h16 (.ref l0) 10 5 fun r18 =>
      q_gI h16 (.ref r18) 8 7 fun x19 =>
      q_pV h16 (.ref l0) 10 15 (.int x19) fun h20 =>
      q_gR h20 (.ref l0) 10 5 fun r21 =>
      q_gI h20 (.ref r21) 8 6 fun x22 =>
      some (.inl (some (.int x22)), h20)))
    else
      q_gR h9 (.ref l0) 10 0 fun r23 =>
      q_rcv h9 (.ref r23) 9 (q_rI (call 103 [.ref r23] h9) q_t0 fun x25 h24 =>
      some (.inl (some (.int x25)), h24)))
  else
    some (.inl (some (.int (-20 : Int32))), h3))) := by
  refine (q_cut_eq _ _ [0] 200 _ _ _ _).trans ?_
  rfl
set_option maxRecDepth 20000 in
theorem k_X10_book_0 (call : Nat → List Value → qH → qR) (l0 : Nat) (l1 : Int32) (h : qH) : q_run qm_X10_book call 0 [.ref l0, .int l1] [] h =
  q_rcv h (.ref l0) 10 (q_rV (call 153 [.ref l0, .int l1, .int (100 : Int32)] h) q_t0 fun h1 =>
  q_gR h1 (.ref l0) 10 4 fun r3 =>
  q_gR h1 (.ref l0) 10 0 fun r4 =>
  q_rcv h1 (.ref r3) 2 (q_rI (call 47 [.ref r3, .ref r4] h1) q_t0 fun x6 h5 =>
  if q_cmp .eq x6 (0 : Int32) = true then
    q_gR h5 (.ref l0) 10 0 fun r7 =>
    q_rcv h5 (.ref r7) 9 (q_rI (call 103 [.ref r7] h5) q_t0 fun x9 h8 =>
    q_run qm_X10_book call 38 [.ref l0, .int l1] [.int x9] h8)
  else
    q_gR h5 (.ref l0) 10 4 fun r10 =>
    q_gI h5 (.ref r10) 2 6 fun x11 =>
    q_run qm_X10_book call 38 [.ref l0, .int l1] [.int x11] h5)) := by
  refine (q_cut_eq _ _ [0, 38] 200 _ _ _ _).trans ?_
  rfl
set_option maxRecDepth 20000 in
theorem k_X10_book_38 (call : Nat → List Value → qH → qR) (l0 : Value) (l1 : Value) (s0 : Int32) (h : qH) : q_run qm_X10_book call 38 [l0, l1] [.int s0] h =
  some (.inl (some (.int s0)), h) := by
  refine (q_cut_eq _ _ [0, 38] 200 _ _ _ _).trans ?_
  rfl
set_option maxRecDepth 20000 in
theorem k_X10_fault_0 (call : Nat → List Value → qH → qR) (l0 : Nat) (h : qH) : q_run qm_X10_fault call 0 [.ref l0] [] h =
  q_gR h (.ref l0) 10 0 fun r1 =>
  q_gI h (.ref r1) 9 7 fun x2 =>
  some (.inl (some (.int x2)), h) := by
  refine (q_cut_eq _ _ [0] 200 _ _ _ _).trans ?_
  rfl
set_option maxRecDepth 20000 in
theorem k_X10_told_0 (call : Nat → List Value → qH → qR) (l0 : Nat) (l1 : Int32) (h : qH) : q_run qm_X10_told call 0 [.ref l0, .int l1] [] h =
  if q_cmp .lt l1 (0 : Int32) = true then
    q_run qm_X10_told call 15 [.ref l0, .int l1] [.ref l0] h
  else
    if q_cmp .gt l1 (11 : Int32) = true then
      q_run qm_X10_told call 15 [.ref l0, .int l1] [.ref l0] h
    else
      q_run qm_X10_told call 16 [.ref l0, .int l1] [.int (1 : Int32), .ref l0] h := by
  refine (q_cut_eq _ _ [0, 15, 16, 20] 200 _ _ _ _).trans ?_
  rfl
set_option maxRecDepth 20000 in
theorem k_X10_told_15 (call : Nat → List Value → qH → qR) (l0 : Nat) (l1 : Int32) (s0 : Nat) (h : qH) : q_run qm_X10_told call 15 [.ref l0, .int l1] [.ref s0] h =
  q_run qm_X10_told call 16 [.ref l0, .int l1] [.int (0 : Int32), .ref s0] h := by
  refine (q_cut_eq _ _ [0, 15, 16, 20] 200 _ _ _ _).trans ?_
  rfl
set_option maxRecDepth 20000 in
theorem k_X10_told_16 (call : Nat → List Value → qH → qR) (l0 : Nat) (l1 : Int32) (s0 : Nat) (s1 : Int32) (h : qH) : q_run qm_X10_told call 16 [.ref l0, .int l1] [.int s1, .ref s0] h =
  q_rcv h (.ref s0) 10 (q_rV (call 162 [.ref s0, .int s1] h) q_t0 fun h1 =>
  q_run qm_X10_told call 20 [.ref l0, .int l1] [.int l1] h1) := by
  refine (q_cut_eq _ _ [0, 15, 16, 20] 200 _ _ _ _).trans ?_
  rfl
set_option maxRecDepth 20000 in
theorem k_X10_told_20_c0 (call : Nat → List Value → qH → qR) (l0 : Nat) (l1 : Value) (h : qH) : q_run qm_X10_told call 20 [.ref l0, l1] [.int (0 : Int32)] h =
  q_gR h (.ref l0) 10 1 fun r1 =>
  q_gI h (.ref r1) 6 0 fun x2 =>
  some (.inl (some (.int x2)), h) := by
  refine (q_cut_eq _ _ [0, 15, 16, 20] 200 _ _ _ _).trans ?_
  rfl
set_option maxRecDepth 20000 in
theorem k_X10_told_20_c1 (call : Nat → List Value → qH → qR) (l0 : Nat) (l1 : Value) (h : qH) : q_run qm_X10_told call 20 [.ref l0, l1] [.int (1 : Int32)] h =
  q_gR h (.ref l0) 10 1 fun r1 =>
  q_gI h (.ref r1) 6 1 fun x2 =>
  some (.inl (some (.int x2)), h) := by
  refine (q_cut_eq _ _ [0, 15, 16, 20] 200 _ _ _ _).trans ?_
  rfl
set_option maxRecDepth 20000 in
theorem k_X10_told_20_c2 (call : Nat → List Value → qH → qR) (l0 : Nat) (l1 : Value) (h : qH) : q_run qm_X10_told call 20 [.ref l0, l1] [.int (2 : Int32)] h =
  q_gR h (.ref l0) 10 1 fun r1 =>
  q_gI h (.ref r1) 6 2 fun x2 =>
  some (.inl (some (.int x2)), h) := by
  refine (q_cut_eq _ _ [0, 15, 16, 20] 200 _ _ _ _).trans ?_
  rfl
set_option maxRecDepth 20000 in
theorem k_X10_told_20_c3 (call : Nat → List Value → qH → qR) (l0 : Nat) (l1 : Value) (h : qH) : q_run qm_X10_told call 20 [.ref l0, l1] [.int (3 : Int32)] h =
  q_gR h (.ref l0) 10 6 fun r1 =>
  q_gI h (.ref r1) 1 7 fun x2 =>
  some (.inl (some (.int x2)), h) := by
  refine (q_cut_eq _ _ [0, 15, 16, 20] 200 _ _ _ _).trans ?_
  rfl
set_option maxRecDepth 20000 in
theorem k_X10_told_20_c4 (call : Nat → List Value → qH → qR) (l0 : Nat) (l1 : Value) (h : qH) : q_run qm_X10_told call 20 [.ref l0, l1] [.int (4 : Int32)] h =
  q_gR h (.ref l0) 10 6 fun r1 =>
  q_gI h (.ref r1) 1 8 fun x2 =>
  some (.inl (some (.int x2)), h) := by
  refine (q_cut_eq _ _ [0, 15, 16, 20] 200 _ _ _ _).trans ?_
  rfl
set_option maxRecDepth 20000 in
theorem k_X10_told_20_c5 (call : Nat → List Value → qH → qR) (l0 : Nat) (l1 : Value) (h : qH) : q_run qm_X10_told call 20 [.ref l0, l1] [.int (5 : Int32)] h =
  q_gR h (.ref l0) 10 6 fun r1 =>
  q_rcv h (.ref r1) 1 (q_rI (call 27 [.ref r1] h) q_t0 fun x3 h2 =>
  some (.inl (some (.int x3)), h2)) := by
  refine (q_cut_eq _ _ [0, 15, 16, 20] 200 _ _ _ _).trans ?_
  rfl
set_option maxRecDepth 20000 in
theorem k_X10_told_20_c6 (call : Nat → List Value → qH → qR) (l0 : Nat) (l1 : Value) (h : qH) : q_run qm_X10_told call 20 [.ref l0, l1] [.int (6 : Int32)] h =
  q_gR h (.ref l0) 10 6 fun r1 =>
  q_rcv h (.ref r1) 1 (q_rI (call 28 [.ref r1] h) q_t0 fun x3 h2 =>
  some (.inl (some (.int x3)), h2)) := by
  refine (q_cut_eq _ _ [0, 15, 16, 20] 200 _ _ _ _).trans ?_
  rfl
set_option maxRecDepth 20000 in
theorem k_X10_told_20_c7 (call : Nat → List Value → qH → qR) (l0 : Nat) (l1 : Value) (h : qH) : q_run qm_X10_told call 20 [.ref l0, l1] [.int (7 : Int32)] h =
  q_gR h (.ref l0) 10 6 fun r1 =>
  q_rcv h (.ref r1) 1 (q_rI (call 29 [.ref r1] h) q_t0 fun x3 h2 =>
  some (.inl (some (.int x3)), h2)) := by
  refine (q_cut_eq _ _ [0, 15, 16, 20] 200 _ _ _ _).trans ?_
  rfl
set_option maxRecDepth 20000 in
theorem k_X10_told_20_c8 (call : Nat → List Value → qH → qR) (l0 : Nat) (l1 : Value) (h : qH) : q_run qm_X10_told call 20 [.ref l0, l1] [.int (8 : Int32)] h =
  q_gR h (.ref l0) 10 4 fun r1 =>
  q_gI h (.ref r1) 2 6 fun x2 =>
  some (.inl (some (.int x2)), h) := by
  refine (q_cut_eq _ _ [0, 15, 16, 20] 200 _ _ _ _).trans ?_
  rfl
set_option maxRecDepth 20000 in
theorem k_X10_told_20_c9 (call : Nat → List Value → qH → qR) (l0 : Nat) (l1 : Value) (h : qH) : q_run qm_X10_told call 20 [.ref l0, l1] [.int (9 : Int32)] h =
  q_gI h (.ref l0) 10 15 fun x1 =>
  some (.inl (some (.int x1)), h) := by
  refine (q_cut_eq _ _ [0, 15, 16, 20] 200 _ _ _ _).trans ?_
  rfl
set_option maxRecDepth 20000 in
theorem k_X10_told_20_c10 (call : Nat → List Value → qH → qR) (l0 : Nat) (l1 : Value) (h : qH) : q_run qm_X10_told call 20 [.ref l0, l1] [.int (10 : Int32)] h =
  q_gR h (.ref l0) 10 1 fun r1 =>
  q_gI h (.ref r1) 6 3 fun x2 =>
  some (.inl (some (.int x2)), h) := by
  refine (q_cut_eq _ _ [0, 15, 16, 20] 200 _ _ _ _).trans ?_
  rfl
set_option maxRecDepth 20000 in
theorem k_X10_told_20_d (call : Nat → List Value → qH → qR) (l0 : Nat) (l1 : Value) (s0 : Int32) (h : qH) (hx : s0.toInt < 0 ∨ 10 < s0.toInt) : q_run qm_X10_told call 20 [.ref l0, l1] [.int s0] h =
  q_gR h (.ref l0) 10 1 fun r1 =>
  q_gI h (.ref r1) 6 4 fun x2 =>
  some (.inl (some (.int x2)), h) := by
  refine (q_cut_eq _ _ [0, 15, 16, 20] 200 _ _ _ _).trans ?_
  exact if_pos hx
set_option maxRecDepth 20000 in
theorem k_X10_house_0 (call : Nat → List Value → qH → qR) (l0 : Nat) (l1 : Int32) (l2 : Int32) (h : qH) : q_run qm_X10_house call 0 [.ref l0, .int l1, .int l2, q_junk] [] h =
  q_rcv h (.ref l0) 10 (q_rV (call 155 [.ref l0, .int l1] h) q_t0 fun h1 =>
  q_rcv h1 (.ref l0) 10 (q_rV (call 160 [.ref l0, .int l2, .int (2 : Int32)] h1) q_t0 fun h3 =>
  if q_cmp .ne l2 (0 : Int32) = true then
    q_gR h3 (.ref l0) 10 1 fun r5 =>
    q_rcv h3 (.ref r5) 6 (q_rI (call 77 [.ref r5, .int l1] h3) q_t0 fun x7 h6 =>
    if q_cmp .ne l2 (1 : Int32) = true then
      q_gR h6 (.ref l0) 10 6 fun r8 =>
      q_rcv h6 (.ref r8) 1 (q_rI (call 26 [.ref r8] h6) q_t0 fun x10 h9 =>
      q_run qm_X10_house call 52 [.ref l0, .int l1, .int l2, .int x7] [.int (x7 &&& x10)] h9)
    else
      q_run qm_X10_house call 52 [.ref l0, .int l1, .int l2, .int x7] [.int x7] h6)
  else
    q_gR h3 (.ref l0) 10 6 fun r11 =>
    q_gR h3 (.ref r11) 1 5 fun r12 =>
    q_ald h3 (.ref r12) 0 l1 fun x13 =>
    some (.inl (some (.int x13)), h3))) := by
  refine (q_cut_eq _ _ [0, 52] 200 _ _ _ _).trans ?_
  rfl
set_option maxRecDepth 20000 in
theorem k_X10_house_52 (call : Nat → List Value → qH → qR) (l0 : Value) (l1 : Value) (l2 : Value) (l3 : Value) (s0 : Int32) (h : qH) : q_run qm_X10_house call 52 [l0, l1, l2, l3] [.int s0] h =
  some (.inl (some (.int s0)), h) := by
  refine (q_cut_eq _ _ [0, 52] 200 _ _ _ _).trans ?_
  rfl
set_option maxRecDepth 20000 in
theorem k_X10_wink_0 (call : Nat → List Value → qH → qR) (l0 : Nat) (l1 : Int32) (l2 : Int32) (h : qH) : q_run qm_X10_wink call 0 [.ref l0, .int l1, .int l2] [] h =
  q_rcv h (.ref l0) 10 (q_rV (call 156 [.ref l0, .int l1] h) q_t0 fun h1 =>
  q_rcv h1 (.ref l0) 10 (q_rV (call 160 [.ref l0, .int l2, .int (5 : Int32)] h1) q_t0 fun h3 =>
  q_run qm_X10_wink call 12 [.ref l0, .int l1, .int l2] [.int l2] h3)) := by
  refine (q_cut_eq _ _ [0, 12] 200 _ _ _ _).trans ?_
  rfl
set_option maxRecDepth 20000 in
theorem k_X10_wink_12_c0 (call : Nat → List Value → qH → qR) (l0 : Nat) (l1 : Int32) (l2 : Value) (h : qH) : q_run qm_X10_wink call 12 [.ref l0, .int l1, l2] [.int (0 : Int32)] h =
  q_gR h (.ref l0) 10 1 fun r1 =>
  q_gR h (.ref r1) 6 6 fun r2 =>
  q_ald h (.ref r2) 0 l1 fun x3 =>
  some (.inl (some (.int x3)), h) := by
  refine (q_cut_eq _ _ [0, 12] 200 _ _ _ _).trans ?_
  rfl
set_option maxRecDepth 20000 in
theorem k_X10_wink_12_c1 (call : Nat → List Value → qH → qR) (l0 : Nat) (l1 : Int32) (l2 : Value) (h : qH) : q_run qm_X10_wink call 12 [.ref l0, .int l1, l2] [.int (1 : Int32)] h =
  q_gR h (.ref l0) 10 1 fun r1 =>
  q_gR h (.ref r1) 6 7 fun r2 =>
  q_ald h (.ref r2) 0 l1 fun x3 =>
  some (.inl (some (.int x3)), h) := by
  refine (q_cut_eq _ _ [0, 12] 200 _ _ _ _).trans ?_
  rfl
set_option maxRecDepth 20000 in
theorem k_X10_wink_12_c2 (call : Nat → List Value → qH → qR) (l0 : Nat) (l1 : Int32) (l2 : Value) (h : qH) : q_run qm_X10_wink call 12 [.ref l0, .int l1, l2] [.int (2 : Int32)] h =
  q_gR h (.ref l0) 10 6 fun r1 =>
  q_gR h (.ref r1) 1 2 fun r2 =>
  q_ald h (.ref r2) 0 l1 fun x3 =>
  some (.inl (some (.int (if x3 < (-3 : Int32) then (-3 : Int32) else x3))), h) := by
  refine (q_cut_eq _ _ [0, 12] 200 _ _ _ _).trans ?_
  rfl
set_option maxRecDepth 20000 in
theorem k_X10_wink_12_c3 (call : Nat → List Value → qH → qR) (l0 : Nat) (l1 : Int32) (l2 : Value) (h : qH) : q_run qm_X10_wink call 12 [.ref l0, .int l1, l2] [.int (3 : Int32)] h =
  q_gR h (.ref l0) 10 6 fun r1 =>
  q_gR h (.ref r1) 1 4 fun r2 =>
  q_ald h (.ref r2) 0 l1 fun x3 =>
  some (.inl (some (.int x3)), h) := by
  refine (q_cut_eq _ _ [0, 12] 200 _ _ _ _).trans ?_
  rfl
set_option maxRecDepth 20000 in
theorem k_X10_wink_12_c4 (call : Nat → List Value → qH → qR) (l0 : Nat) (l1 : Int32) (l2 : Value) (h : qH) : q_run qm_X10_wink call 12 [.ref l0, .int l1, l2] [.int (4 : Int32)] h =
  q_gR h (.ref l0) 10 6 fun r1 =>
  q_gR h (.ref r1) 1 3 fun r2 =>
  q_ald h (.ref r2) 0 l1 fun x3 =>
  some (.inl (some (.int x3)), h) := by
  refine (q_cut_eq _ _ [0, 12] 200 _ _ _ _).trans ?_
  rfl
set_option maxRecDepth 20000 in
theorem k_X10_wink_12_d (call : Nat → List Value → qH → qR) (l0 : Nat) (l1 : Int32) (l2 : Value) (s0 : Int32) (h : qH) (hx : s0.toInt < 0 ∨ 4 < s0.toInt) : q_run qm_X10_wink call 12 [.ref l0, .int l1, l2] [.int s0] h =
  q_gR h (.ref l0) 10 6 fun r1 =>
  q_rcv h (.ref r1) 1 (q_rI (call 23 [.ref r1, .int l1] h) q_t0 fun x3 h2 =>
  some (.inl (some (.int x3)), h2)) := by
  refine (q_cut_eq _ _ [0, 12] 200 _ _ _ _).trans ?_
  exact if_pos hx
set_option maxRecDepth 20000 in
theorem k_X10_cup_0 (call : Nat → List Value → qH → qR) (l0 : Nat) (l1 : Int32) (l2 : Int32) (h : qH) : q_run qm_X10_cup call 0 [.ref l0, .int l1, .int l2] [] h =
  q_rcv h (.ref l0) 10 (q_rV (call 157 [.ref l0, .int l1] h) q_t0 fun h1 =>
  q_rcv h1 (.ref l0) 10 (q_rV (call 160 [.ref l0, .int l2, .int (2 : Int32)] h1) q_t0 fun h3 =>
  if q_cmp .ne l2 (0 : Int32) = true then
    if q_cmp .ne l2 (1 : Int32) = true then
      q_gR h3 (.ref l0) 10 6 fun r5 =>
      q_rcv h3 (.ref r5) 1 (q_rI (call 30 [.ref r5, .int l1] h3) q_t0 fun x7 h6 =>
      q_run qm_X10_cup call 50 [.ref l0, .int l1, .int l2] [.int x7] h6)
    else
      q_gR h3 (.ref l0) 10 1 fun r8 =>
      q_gR h3 (.ref r8) 6 10 fun r9 =>
      q_ald h3 (.ref r9) 0 l1 fun x10 =>
      q_run qm_X10_cup call 50 [.ref l0, .int l1, .int l2] [.int x10] h3
  else
    q_gR h3 (.ref l0) 10 1 fun r11 =>
    q_gR h3 (.ref r11) 6 9 fun r12 =>
    q_ald h3 (.ref r12) 0 l1 fun x13 =>
    some (.inl (some (.int x13)), h3))) := by
  refine (q_cut_eq _ _ [0, 50] 200 _ _ _ _).trans ?_
  rfl
set_option maxRecDepth 20000 in
theorem k_X10_cup_50 (call : Nat → List Value → qH → qR) (l0 : Value) (l1 : Value) (l2 : Value) (s0 : Int32) (h : qH) : q_run qm_X10_cup call 50 [l0, l1, l2] [.int s0] h =
  some (.inl (some (.int s0)), h) := by
  refine (q_cut_eq _ _ [0, 50] 200 _ _ _ _).trans ?_
  rfl
set_option maxRecDepth 20000 in
theorem k_X10_cell_0 (call : Nat → List Value → qH → qR) (l0 : Nat) (l1 : Int32) (l2 : Int32) (h : qH) : q_run qm_X10_cell call 0 [.ref l0, .int l1, .int l2] [] h =
  q_gR h (.ref l0) 10 1 fun r1 =>
  q_gI h (.ref r1) 6 3 fun x2 =>
  q_rcv h (.ref l0) 10 (q_rV (call 158 [.ref l0, .int l1, .int x2] h) q_t0 fun h3 =>
  q_rcv h3 (.ref l0) 10 (q_rV (call 160 [.ref l0, .int l2, .int (3 : Int32)] h3) q_t0 fun h5 =>
  q_run qm_X10_cell call 19 [.ref l0, .int l1, .int l2] [.int l2] h5)) := by
  refine (q_cut_eq _ _ [0, 19] 200 _ _ _ _).trans ?_
  rfl
set_option maxRecDepth 20000 in
theorem k_X10_cell_19_c0 (call : Nat → List Value → qH → qR) (l0 : Nat) (l1 : Int32) (l2 : Value) (h : qH) : q_run qm_X10_cell call 19 [.ref l0, .int l1, l2] [.int (0 : Int32)] h =
  q_gR h (.ref l0) 10 6 fun r1 =>
  q_gR h (.ref r1) 1 6 fun r2 =>
  q_ald h (.ref r2) 0 l1 fun x3 =>
  some (.inl (some (.int x3)), h) := by
  refine (q_cut_eq _ _ [0, 19] 200 _ _ _ _).trans ?_
  rfl
set_option maxRecDepth 20000 in
theorem k_X10_cell_19_c1 (call : Nat → List Value → qH → qR) (l0 : Nat) (l1 : Int32) (l2 : Value) (h : qH) : q_run qm_X10_cell call 19 [.ref l0, .int l1, l2] [.int (1 : Int32)] h =
  q_gR h (.ref l0) 10 6 fun r1 =>
  q_gR h (.ref l0) 10 6 fun r2 =>
  q_gR h (.ref r2) 1 6 fun r3 =>
  q_ald h (.ref r3) 0 l1 fun x4 =>
  q_rcv h (.ref r1) 1 (q_rI (call 31 [.ref r1, .int l1, .int (x4 - (1 : Int32))] h) q_t0 fun x6 h5 =>
  some (.inl (some (.int x6)), h5)) := by
  refine (q_cut_eq _ _ [0, 19] 200 _ _ _ _).trans ?_
  rfl
set_option maxRecDepth 20000 in
theorem k_X10_cell_19_c2 (call : Nat → List Value → qH → qR) (l0 : Nat) (l1 : Int32) (l2 : Value) (h : qH) : q_run qm_X10_cell call 19 [.ref l0, .int l1, l2] [.int (2 : Int32)] h =
  q_gR h (.ref l0) 10 6 fun r1 =>
  q_rcv h (.ref r1) 1 (q_rI (call 31 [.ref r1, .int l1, .int (0 : Int32)] h) q_t0 fun x3 h2 =>
  some (.inl (some (.int x3)), h2)) := by
  refine (q_cut_eq _ _ [0, 19] 200 _ _ _ _).trans ?_
  rfl
set_option maxRecDepth 20000 in
theorem k_X10_cell_19_d (call : Nat → List Value → qH → qR) (l0 : Nat) (l1 : Int32) (l2 : Value) (s0 : Int32) (h : qH) (hx : s0.toInt < 0 ∨ 2 < s0.toInt) : q_run qm_X10_cell call 19 [.ref l0, .int l1, l2] [.int s0] h =
  q_gR h (.ref l0) 10 1 fun r1 =>
  q_rcv h (.ref r1) 6 (q_rI (call 78 [.ref r1, .int l1] h) q_t0 fun x3 h2 =>
  some (.inl (some (.int x3)), h2)) := by
  refine (q_cut_eq _ _ [0, 19] 200 _ _ _ _).trans ?_
  exact if_pos hx
set_option maxRecDepth 20000 in
theorem k_X10_trust_0 (call : Nat → List Value → qH → qR) (l0 : Nat) (l1 : Int32) (h : qH) : q_run qm_X10_trust call 0 [.ref l0, .int l1, q_junk, q_junk, q_junk] [] h =
  q_rcv h (.ref l0) 10 (q_rV (call 160 [.ref l0, .int l1, .int (1 : Int32)] h) q_t0 fun h1 =>
  q_run qm_X10_trust call 13 [.ref l0, .int l1, .int (0 : Int32), .int (-1 : Int32), .int (0 : Int32)] [] h1) := by
  refine (q_cut_eq _ _ [0, 13, 53, 75] 200 _ _ _ _).trans ?_
  rfl
set_option maxRecDepth 20000 in
theorem k_X10_trust_13 (call : Nat → List Value → qH → qR) (l0 : Nat) (l1 : Int32) (l2 : Int32) (l3 : Int32) (l4 : Int32) (h : qH) : q_run qm_X10_trust call 13 [.ref l0, .int l1, .int l2, .int l3, .int l4] [] h =
  q_gR h (.ref l0) 10 1 fun r1 =>
  q_gI h (.ref r1) 6 3 fun x2 =>
  if q_cmp .ge l4 x2 = true then
    if q_cmp .ne l3 (-1 : Int32) = true then
      if q_cmp .ne l1 (0 : Int32) = true then
        q_run qm_X10_trust call 75 [.ref l0, .int l1, .int l2, .int l3, .int l4] [.int l2] h
      else
        q_run qm_X10_trust call 75 [.ref l0, .int l1, .int l2, .int l3, .int l4] [.int l3] h
    else
      some (.inl (some (.int (-1 : Int32))), h)
  else
    q_gR h (.ref l0) 10 6 fun r3 =>
    q_gR h (.ref r3) 1 6 fun r4 =>
    q_ald h (.ref r4) 0 l4 fun x5 =>
    if q_cmp .le x5 l2 = true then
      q_run qm_X10_trust call 53 [.ref l0, .int l1, .int l2, .int l3, .int l4] [] h
    else
      q_gR h (.ref l0) 10 6 fun r6 =>
      q_gR h (.ref r6) 1 6 fun r7 =>
      q_ald h (.ref r7) 0 l4 fun x8 =>
      q_run qm_X10_trust call 53 [.ref l0, .int l1, .int x8, .int l4, .int l4] [] h := by
  refine (q_cut_eq _ _ [0, 13, 53, 75] 200 _ _ _ _).trans ?_
  rfl
set_option maxRecDepth 20000 in
theorem k_X10_trust_53 (call : Nat → List Value → qH → qR) (l0 : Nat) (l1 : Int32) (l2 : Int32) (l3 : Int32) (l4 : Int32) (h : qH) : q_run qm_X10_trust call 53 [.ref l0, .int l1, .int l2, .int l3, .int l4] [] h =
  q_run qm_X10_trust call 13 [.ref l0, .int l1, .int l2, .int l3, .int (l4 + (1 : Int32))] [] h := by
  refine (q_cut_eq _ _ [0, 13, 53, 75] 200 _ _ _ _).trans ?_
  rfl
set_option maxRecDepth 20000 in
theorem k_X10_trust_75 (call : Nat → List Value → qH → qR) (l0 : Value) (l1 : Value) (l2 : Value) (l3 : Value) (l4 : Value) (s0 : Int32) (h : qH) : q_run qm_X10_trust call 75 [l0, l1, l2, l3, l4] [.int s0] h =
  some (.inl (some (.int s0)), h) := by
  refine (q_cut_eq _ _ [0, 13, 53, 75] 200 _ _ _ _).trans ?_
  rfl
set_option maxRecDepth 20000 in
theorem k_X10_flies_0 (call : Nat → List Value → qH → qR) (l0 : Nat) (l1 : Int32) (l2 : Int32) (h : qH) : q_run qm_X10_flies call 0 [.ref l0, .int l1, .int l2] [] h =
  q_rcv h (.ref l0) 10 (q_rV (call 156 [.ref l0, .int l1] h) q_t0 fun h1 =>
  q_rcv h1 (.ref l0) 10 (q_rV (call 159 [.ref l0, .int l2] h1) q_t0 fun h3 =>
  q_gR h3 (.ref l0) 10 6 fun r5 =>
  q_rcv h3 (.ref r5) 1 (q_rI (call 34 [.ref r5, .int l1, .int l2] h3) q_t0 fun x7 h6 =>
  some (.inl (some (.int x7)), h6)))) := by
  refine (q_cut_eq _ _ [0] 200 _ _ _ _).trans ?_
  rfl
set_option maxRecDepth 20000 in
theorem k_X10_would_0 (call : Nat → List Value → qH → qR) (l0 : Nat) (l1 : Int32) (l2 : Int32) (l3 : Int32) (l4 : Int32) (l5 : Int32) (l6 : Int32) (l7 : Int32) (l8 : Int32) (l9 : Int32) (h : qH) : q_run qm_X10_would call 0 [.ref l0, .int l1, .int l2, .int l3, .int l4, .int l5, .int l6, .int l7, .int l8, .int l9] [] h =
  q_rcv h (.ref l0) 10 (q_rV (call 161 [.ref l0, .int l1, .int (1 : Int32), .int (9 : Int32)] h) q_t0 fun h1 =>
  q_rcv h1 (.ref l0) 10 (q_rV (call 161 [.ref l0, .int l2, .int (1 : Int32), .int (9 : Int32)] h1) q_t0 fun h3 =>
  q_rcv h3 (.ref l0) 10 (q_rV (call 161 [.ref l0, .int l3, .int (0 : Int32), .int (9 : Int32)] h3) q_t0 fun h5 =>
  q_rcv h5 (.ref l0) 10 (q_rV (call 161 [.ref l0, .int l4, .int (0 : Int32), .int (9 : Int32)] h5) q_t0 fun h7 =>
  q_rcv h7 (.ref l0) 10 (q_rV (call 161 [.ref l0, .int l5, .int (0 : Int32), .int (9 : Int32)] h7) q_t0 fun h9 =>
  q_rcv h9 (.ref l0) 10 (q_rV (call 161 [.ref l0, .int l6, .int (0 : Int32), .int (99 : Int32)] h9) q_t0 fun h11 =>
  q_rcv h11 (.ref l0) 10 (q_rV (call 161 [.ref l0, .int l7, .int (0 : Int32), .int (29 : Int32)] h11) q_t0 fun h13 =>
  q_rcv h13 (.ref l0) 10 (q_rV (call 161 [.ref l0, .int l8, .int (0 : Int32), .int (500 : Int32)] h13) q_t0 fun h15 =>
  q_rcv h15 (.ref l0) 10 (q_rV (call 161 [.ref l0, .int l9, .int (0 : Int32), .int (9999 : Int32)] h15) q_t0 fun h17 =>
  q_run qm_X10_would call 80 [.ref l0, .int l1, .int l2, .int l3, .int l4, .int l5, .int l6, .int l7, .int l8, .int l9] [] h17))))))))) := by
  refine (q_cut_eq _ _ [0, 80, 169] 200 _ _ _ _).trans ?_
  rfl
set_option maxRecDepth 20000 in
theorem k_X10_would_80 (call : Nat → List Value → qH → qR) (l0 : Nat) (l1 : Int32) (l2 : Int32) (l3 : Int32) (l4 : Int32) (l5 : Int32) (l6 : Int32) (l7 : Int32) (l8 : Int32) (l9 : Int32) (h : qH) : q_run qm_X10_would call 80 [.ref l0, .int l1, .int l2, .int l3, .int l4, .int l5, .int l6, .int l7, .int l8, .int l9] [] h =
  q_gR h (.ref l0) 10 3 fun r1 =>
  q_gR h (.ref r1) 5 3 fun r2 =>
  q_ast h (.ref r2) 0 (1 : Int32) l2 fun h3 =>
  q_gR h3 (.ref l0) 10 3 fun r4 =>
  q_gR h3 (.ref r4) 5 3 fun r5 =>
  q_ast h3 (.ref r5) 0 (2 : Int32) l3 fun h6 =>
  q_gR h6 (.ref l0) 10 3 fun r7 =>
  q_gR h6 (.ref r7) 5 3 fun r8 =>
  q_ast h6 (.ref r8) 0 (3 : Int32) l4 fun h9 =>
  q_gR h9 (.ref l0) 10 3 fun r10 =>
  q_gR h9 (.ref r10) 5 3 fun r11 =>
  q_ast h9 (.ref r11) 0 (4 : Int32) l5 fun h12 =>
  q_gR h12 (.ref l0) 10 3 fun r13 =>
  q_gR h12 (.ref r13) 5 3 fun r14 =>
  q_ast h12 (.ref r14) 0 (5 : Int32) l6 fun h15 =>
  q_gR h15 (.ref l0) 10 3 fun r16 =>
  q_gR h15 (.ref r16) 5 3 fun r17 =>
  q_ast h15 (.ref r17) 0 (6 : Int32) l7 fun h18 =>
  q_gR h18 (.ref l0) 10 3 fun r19 =>
  q_gR h18 (.ref r19) 5 3 fun r20 =>
  q_ast h18 (.ref r20) 0 (7 : Int32) l8 fun h21 =>
  q_gR h21 (.ref l0) 10 3 fun r22 =>
  q_gR h21 (.ref r22) 5 3 fun r23 =>
  q_ast h21 (.ref r23) 0 (8 : Int32) l9 fun h24 =>
  q_run qm_X10_would call 169 [.ref l0, .int l1, .int l2, .int l3, .int l4, .int l5, .int l6, .int l7, .int l8, .int l9] [] h24 := by
  refine (q_cut_eq _ _ [0, 80, 169] 200 _ _ _ _).trans ?_
  rfl
set_option maxRecDepth 20000 in
theorem k_X10_would_169 (call : Nat → List Value → qH → qR) (l0 : Nat) (l1 : Int32) (l2 : Value) (l3 : Value) (l4 : Value) (l5 : Value) (l6 : Value) (l7 : Value) (l8 : Value) (l9 : Value) (h : qH) : q_run qm_X10_would call 169 [.ref l0, .int l1, l2, l3, l4, l5, l6, l7, l8, l9] [] h =
  q_gR h (.ref l0) 10 3 fun r1 =>
  q_rcv h (.ref r1) 5 (q_rI (call 72 [.ref r1, .int l1] h) q_t0 fun x3 h2 =>
  some (.inl (some (.int x3)), h2)) := by
  refine (q_cut_eq _ _ [0, 80, 169] 200 _ _ _ _).trans ?_
  rfl
set_option maxRecDepth 20000 in
theorem k_X10_down_0 (call : Nat → List Value → qH → qR) (l0 : Nat) (l1 : Int32) (l2 : Int32) (l3 : Int32) (h : qH) : q_run qm_X10_down call 0 [.ref l0, .int l1, .int l2, .int l3] [] h =
  q_rcv h (.ref l0) 10 (q_rV (call 156 [.ref l0, .int l1] h) q_t0 fun h1 =>
  q_rcv h1 (.ref l0) 10 (q_rV (call 159 [.ref l0, .int l2] h1) q_t0 fun h3 =>
  q_rcv h3 (.ref l0) 10 (q_rV (call 160 [.ref l0, .int l3, .int (1 : Int32)] h3) q_t0 fun h5 =>
  q_gR h5 (.ref l0) 10 6 fun r7 =>
  q_rcv h5 (.ref r7) 1 (q_rI (call 24 [.ref r7, .int l1] h5) q_t0 fun x9 h8 =>
  if q_cmp .eq x9 (0 : Int32) = true then
    q_run qm_X10_down call 42 [.ref l0, .int l1, .int l2, .int l3] [.int (-3 : Int32)] h8
  else
    q_gR h8 (.ref l0) 10 6 fun r10 =>
    q_rcv h8 (.ref r10) 1 (q_rI (call 35 [.ref r10, .int l1, .int l2, .int l3] h8) q_t0 fun x12 h11 =>
    q_run qm_X10_down call 42 [.ref l0, .int l1, .int l2, .int l3] [.int x12] h11))))) := by
  refine (q_cut_eq _ _ [0, 42] 200 _ _ _ _).trans ?_
  rfl
set_option maxRecDepth 20000 in
theorem k_X10_down_42 (call : Nat → List Value → qH → qR) (l0 : Value) (l1 : Value) (l2 : Value) (l3 : Value) (s0 : Int32) (h : qH) : q_run qm_X10_down call 42 [l0, l1, l2, l3] [.int s0] h =
  some (.inl (some (.int s0)), h) := by
  refine (q_cut_eq _ _ [0, 42] 200 _ _ _ _).trans ?_
  rfl
set_option maxRecDepth 20000 in
theorem k_X10_presses_0 (call : Nat → List Value → qH → qR) (l0 : Nat) (l1 : Int32) (l2 : Int32) (h : qH) : q_run qm_X10_presses call 0 [.ref l0, .int l1, .int l2, q_junk, q_junk] [] h =
  q_rcv h (.ref l0) 10 (q_rV (call 156 [.ref l0, .int l1] h) q_t0 fun h1 =>
  q_rcv h1 (.ref l0) 10 (q_rV (call 160 [.ref l0, .int l2, .int (1 : Int32)] h1) q_t0 fun h3 =>
  q_run qm_X10_presses call 16 [.ref l0, .int l1, .int l2, .int (0 : Int32), .int (1 : Int32)] [] h3)) := by
  refine (q_cut_eq _ _ [0, 16, 47] 200 _ _ _ _).trans ?_
  rfl
set_option maxRecDepth 20000 in
theorem k_X10_presses_16 (call : Nat → List Value → qH → qR) (l0 : Nat) (l1 : Int32) (l2 : Int32) (l3 : Int32) (l4 : Int32) (h : qH) : q_run qm_X10_presses call 16 [.ref l0, .int l1, .int l2, .int l3, .int l4] [] h =
  if q_cmp .gt l4 (9 : Int32) = true then
    some (.inl (some (.int l3)), h)
  else
    q_gR h (.ref l0) 10 8 fun r1 =>
    q_rcv h (.ref r1) 0 (q_rI (call 1 [.ref r1, .int l1, .int l4, .int l2] h) q_t0 fun x3 h2 =>
    if q_cmp .eq x3 (-1 : Int32) = true then
      q_run qm_X10_presses call 47 [.ref l0, .int l1, .int l2, .int l3, .int l4] [] h2
    else
      q_run qm_X10_presses call 47 [.ref l0, .int l1, .int l2, .int (l3 ||| ((1 : Int32) <<< ((l4 - (1 : Int32)) &&& 31))), .int l4] [] h2) := by
  refine (q_cut_eq _ _ [0, 16, 47] 200 _ _ _ _).trans ?_
  rfl
set_option maxRecDepth 20000 in
theorem k_X10_presses_47 (call : Nat → List Value → qH → qR) (l0 : Nat) (l1 : Int32) (l2 : Int32) (l3 : Int32) (l4 : Int32) (h : qH) : q_run qm_X10_presses call 47 [.ref l0, .int l1, .int l2, .int l3, .int l4] [] h =
  q_run qm_X10_presses call 16 [.ref l0, .int l1, .int l2, .int l3, .int (l4 + (1 : Int32))] [] h := by
  refine (q_cut_eq _ _ [0, 16, 47] 200 _ _ _ _).trans ?_
  rfl
set_option maxRecDepth 20000 in
theorem k_X10_gain_0 (call : Nat → List Value → qH → qR) (l0 : Nat) (l1 : Int32) (l2 : Int32) (h : qH) : q_run qm_X10_gain call 0 [.ref l0, .int l1, .int l2] [] h =
  q_rcv h (.ref l0) 10 (q_rV (call 155 [.ref l0, .int l1] h) q_t0 fun h1 =>
  q_rcv h1 (.ref l0) 10 (q_rV (call 160 [.ref l0, .int l2, .int (1 : Int32)] h1) q_t0 fun h3 =>
  q_gR h3 (.ref l0) 10 8 fun r5 =>
  q_rcv h3 (.ref r5) 0 (q_rV (call 3 [.ref r5, .int l1] h3) q_t0 fun h6 =>
  if q_cmp .ne l2 (0 : Int32) = true then
    q_gR h6 (.ref l0) 10 8 fun r8 =>
    q_gI h6 (.ref r8) 0 10 fun x9 =>
    q_run qm_X10_gain call 40 [.ref l0, .int l1, .int l2] [.int x9] h6
  else
    q_gR h6 (.ref l0) 10 8 fun r10 =>
    q_gI h6 (.ref r10) 0 9 fun x11 =>
    q_run qm_X10_gain call 40 [.ref l0, .int l1, .int l2] [.int x11] h6))) := by
  refine (q_cut_eq _ _ [0, 40] 200 _ _ _ _).trans ?_
  rfl
set_option maxRecDepth 20000 in
theorem k_X10_gain_40 (call : Nat → List Value → qH → qR) (l0 : Value) (l1 : Value) (l2 : Value) (s0 : Int32) (h : qH) : q_run qm_X10_gain call 40 [l0, l1, l2] [.int s0] h =
  some (.inl (some (.int s0)), h) := by
  refine (q_cut_eq _ _ [0, 40] 200 _ _ _ _).trans ?_
  rfl
set_option maxRecDepth 20000 in
theorem k_X10_way_0 (call : Nat → List Value → qH → qR) (l0 : Nat) (l1 : Int32) (l2 : Int32) (h : qH) : q_run qm_X10_way call 0 [.ref l0, .int l1, .int l2] [] h =
  q_rcv h (.ref l0) 10 (q_rV (call 156 [.ref l0, .int l1] h) q_t0 fun h1 =>
  q_rcv h1 (.ref l0) 10 (q_rV (call 160 [.ref l0, .int l2, .int (1 : Int32)] h1) q_t0 fun h3 =>
  q_gR h3 (.ref l0) 10 8 fun r5 =>
  q_rcv h3 (.ref r5) 0 (q_rV (call 5 [.ref r5, .int l1] h3) q_t0 fun h6 =>
  if q_cmp .ne l2 (0 : Int32) = true then
    q_gR h6 (.ref l0) 10 8 fun r8 =>
    q_gI h6 (.ref r8) 0 10 fun x9 =>
    q_run qm_X10_way call 40 [.ref l0, .int l1, .int l2] [.int x9] h6
  else
    q_gR h6 (.ref l0) 10 8 fun r10 =>
    q_gI h6 (.ref r10) 0 9 fun x11 =>
    q_run qm_X10_way call 40 [.ref l0, .int l1, .int l2] [.int x11] h6))) := by
  refine (q_cut_eq _ _ [0, 40] 200 _ _ _ _).trans ?_
  rfl
set_option maxRecDepth 20000 in
theorem k_X10_way_40 (call : Nat → List Value → qH → qR) (l0 : Value) (l1 : Value) (l2 : Value) (s0 : Int32) (h : qH) : q_run qm_X10_way call 40 [l0, l1, l2] [.int s0] h =
  some (.inl (some (.int s0)), h) := by
  refine (q_cut_eq _ _ [0, 40] 200 _ _ _ _).trans ?_
  rfl
set_option maxRecDepth 20000 in
theorem k_X10_odds_0 (call : Nat → List Value → qH → qR) (l0 : Nat) (l1 : Int32) (l2 : Int32) (l3 : Int32) (l4 : Int32) (h : qH) : q_run qm_X10_odds call 0 [.ref l0, .int l1, .int l2, .int l3, .int l4] [] h =
  q_rcv h (.ref l0) 10 (q_rV (call 154 [.ref l0, .int l1, .int l2, .int l3, .int l4] h) q_t0 fun h1 =>
  q_gR h1 (.ref l0) 10 8 fun r3 =>
  q_rcv h1 (.ref r3) 0 (q_rV (call 9 [.ref r3, .int l1, .int l2, .int l3, .int (0 : Int32)] h1) q_t0 fun h4 =>
  if q_cmp .ne l4 (0 : Int32) = true then
    q_gR h4 (.ref l0) 10 8 fun r6 =>
    q_gI h4 (.ref r6) 0 12 fun x7 =>
    q_run qm_X10_odds call 42 [.ref l0, .int l1, .int l2, .int l3, .int l4] [.int x7] h4
  else
    q_gR h4 (.ref l0) 10 8 fun r8 =>
    q_gI h4 (.ref r8) 0 11 fun x9 =>
    q_run qm_X10_odds call 42 [.ref l0, .int l1, .int l2, .int l3, .int l4] [.int x9] h4)) := by
  refine (q_cut_eq _ _ [0, 42] 200 _ _ _ _).trans ?_
  rfl
set_option maxRecDepth 20000 in
theorem k_X10_odds_42 (call : Nat → List Value → qH → qR) (l0 : Value) (l1 : Value) (l2 : Value) (l3 : Value) (l4 : Value) (s0 : Int32) (h : qH) : q_run qm_X10_odds call 42 [l0, l1, l2, l3, l4] [.int s0] h =
  some (.inl (some (.int s0)), h) := by
  refine (q_cut_eq _ _ [0, 42] 200 _ _ _ _).trans ?_
  rfl
set_option maxRecDepth 20000 in
theorem k_X10_mean_0 (call : Nat → List Value → qH → qR) (l0 : Nat) (l1 : Int32) (l2 : Int32) (l3 : Int32) (l4 : Int32) (h : qH) : q_run qm_X10_mean call 0 [.ref l0, .int l1, .int l2, .int l3, .int l4] [] h =
  q_rcv h (.ref l0) 10 (q_rV (call 154 [.ref l0, .int l1, .int l2, .int l3, .int l4] h) q_t0 fun h1 =>
  q_gR h1 (.ref l0) 10 8 fun r3 =>
  q_rcv h1 (.ref r3) 0 (q_rV (call 9 [.ref r3, .int l1, .int l2, .int l3, .int (1 : Int32)] h1) q_t0 fun h4 =>
  if q_cmp .ne l4 (0 : Int32) = true then
    q_gR h4 (.ref l0) 10 8 fun r6 =>
    q_gI h4 (.ref r6) 0 12 fun x7 =>
    q_run qm_X10_mean call 42 [.ref l0, .int l1, .int l2, .int l3, .int l4] [.int x7] h4
  else
    q_gR h4 (.ref l0) 10 8 fun r8 =>
    q_gI h4 (.ref r8) 0 11 fun x9 =>
    q_run qm_X10_mean call 42 [.ref l0, .int l1, .int l2, .int l3, .int l4] [.int x9] h4)) := by
  refine (q_cut_eq _ _ [0, 42] 200 _ _ _ _).trans ?_
  rfl
set_option maxRecDepth 20000 in
theorem k_X10_mean_42 (call : Nat → List Value → qH → qR) (l0 : Value) (l1 : Value) (l2 : Value) (l3 : Value) (l4 : Value) (s0 : Int32) (h : qH) : q_run qm_X10_mean call 42 [l0, l1, l2, l3, l4] [.int s0] h =
  some (.inl (some (.int s0)), h) := by
  refine (q_cut_eq _ _ [0, 42] 200 _ _ _ _).trans ?_
  rfl
set_option maxRecDepth 20000 in
theorem k_X10_match_0 (call : Nat → List Value → qH → qR) (l0 : Nat) (h : qH) : q_run qm_X10_match call 0 [.ref l0] [] h =
  q_gR h (.ref l0) 10 8 fun r1 =>
  q_rcv h (.ref r1) 0 (q_rI (call 11 [.ref r1] h) q_t0 fun x3 h2 =>
  some (.inl (some (.int x3)), h2)) := by
  refine (q_cut_eq _ _ [0] 200 _ _ _ _).trans ?_
  rfl
set_option maxRecDepth 20000 in
theorem k_X10_matched_0 (call : Nat → List Value → qH → qR) (l0 : Nat) (l1 : Int32) (h : qH) : q_run qm_X10_matched call 0 [.ref l0, .int l1] [] h =
  q_rcv h (.ref l0) 10 (q_rV (call 157 [.ref l0, .int l1] h) q_t0 fun h1 =>
  q_gR h1 (.ref l0) 10 8 fun r3 =>
  q_rcv h1 (.ref r3) 0 (q_rI (call 11 [.ref r3] h1) q_t0 fun x5 h4 =>
  q_gR h4 (.ref l0) 10 8 fun r6 =>
  q_gR h4 (.ref r6) 0 7 fun r7 =>
  q_ald h4 (.ref r7) 0 l1 fun x8 =>
  some (.inl (some (.int x8)), h4))) := by
  refine (q_cut_eq _ _ [0] 200 _ _ _ _).trans ?_
  rfl
set_option maxRecDepth 20000 in
theorem k_X10_fits_0 (call : Nat → List Value → qH → qR) (l0 : Nat) (l1 : Int32) (l2 : Int32) (h : qH) : q_run qm_X10_fits call 0 [.ref l0, .int l1, .int l2] [] h =
  q_rcv h (.ref l0) 10 (q_rV (call 156 [.ref l0, .int l1] h) q_t0 fun h1 =>
  q_rcv h1 (.ref l0) 10 (q_rV (call 160 [.ref l0, .int l2, .int (1 : Int32)] h1) q_t0 fun h3 =>
  q_gR h3 (.ref l0) 10 4 fun r5 =>
  q_rcv h3 (.ref r5) 2 (q_rV (call 49 [.ref r5, .int l1] h3) q_t0 fun h6 =>
  if q_cmp .ne l2 (0 : Int32) = true then
    q_gR h6 (.ref l0) 10 4 fun r8 =>
    q_gI h6 (.ref r8) 2 8 fun x9 =>
    q_run qm_X10_fits call 40 [.ref l0, .int l1, .int l2] [.int x9] h6
  else
    q_gR h6 (.ref l0) 10 4 fun r10 =>
    q_gI h6 (.ref r10) 2 7 fun x11 =>
    q_run qm_X10_fits call 40 [.ref l0, .int l1, .int l2] [.int x11] h6))) := by
  refine (q_cut_eq _ _ [0, 40] 200 _ _ _ _).trans ?_
  rfl
set_option maxRecDepth 20000 in
theorem k_X10_fits_40 (call : Nat → List Value → qH → qR) (l0 : Value) (l1 : Value) (l2 : Value) (s0 : Int32) (h : qH) : q_run qm_X10_fits call 40 [l0, l1, l2] [.int s0] h =
  some (.inl (some (.int s0)), h) := by
  refine (q_cut_eq _ _ [0, 40] 200 _ _ _ _).trans ?_
  rfl
set_option maxRecDepth 20000 in
theorem k_X10_look_0 (call : Nat → List Value → qH → qR) (l0 : Nat) (l1 : Int32) (l2 : Int32) (h : qH) : q_run qm_X10_look call 0 [.ref l0, .int l1, .int l2] [] h =
  q_rcv h (.ref l0) 10 (q_rV (call 156 [.ref l0, .int l1] h) q_t0 fun h1 =>
  q_rcv h1 (.ref l0) 10 (q_rV (call 160 [.ref l0, .int l2, .int (1 : Int32)] h1) q_t0 fun h3 =>
  q_gR h3 (.ref l0) 10 4 fun r5 =>
  q_rcv h3 (.ref r5) 2 (q_rV (call 52 [.ref r5, .int l1] h3) q_t0 fun h6 =>
  if q_cmp .ne l2 (0 : Int32) = true then
    q_gR h6 (.ref l0) 10 4 fun r8 =>
    q_gI h6 (.ref r8) 2 10 fun x9 =>
    q_run qm_X10_look call 40 [.ref l0, .int l1, .int l2] [.int x9] h6
  else
    q_gR h6 (.ref l0) 10 4 fun r10 =>
    q_gI h6 (.ref r10) 2 9 fun x11 =>
    q_run qm_X10_look call 40 [.ref l0, .int l1, .int l2] [.int x11] h6))) := by
  refine (q_cut_eq _ _ [0, 40] 200 _ _ _ _).trans ?_
  rfl
set_option maxRecDepth 20000 in
theorem k_X10_look_40 (call : Nat → List Value → qH → qR) (l0 : Value) (l1 : Value) (l2 : Value) (s0 : Int32) (h : qH) : q_run qm_X10_look call 40 [l0, l1, l2] [.int s0] h =
  some (.inl (some (.int s0)), h) := by
  refine (q_cut_eq _ _ [0, 40] 200 _ _ _ _).trans ?_
  rfl
set_option maxRecDepth 20000 in
theorem k_X10_duel_0 (call : Nat → List Value → qH → qR) (l0 : Nat) (l1 : Int32) (l2 : Int32) (l3 : Int32) (h : qH) : q_run qm_X10_duel call 0 [.ref l0, .int l1, .int l2, .int l3] [] h =
  q_rcv h (.ref l0) 10 (q_rV (call 156 [.ref l0, .int l1] h) q_t0 fun h1 =>
  q_rcv h1 (.ref l0) 10 (q_rV (call 156 [.ref l0, .int l2] h1) q_t0 fun h3 =>
  q_rcv h3 (.ref l0) 10 (q_rV (call 160 [.ref l0, .int l3, .int (2 : Int32)] h3) q_t0 fun h5 =>
  if q_cmp .eq l1 l2 = true then
    q_run qm_X10_duel call 48 [.ref l0, .int l1, .int l2, .int l3] [.ref l0] h5
  else
    q_gR h5 (.ref l0) 10 6 fun r7 =>
    q_rcv h5 (.ref r7) 1 (q_rI (call 24 [.ref r7, .int l1] h5) q_t0 fun x9 h8 =>
    if q_cmp .eq x9 (0 : Int32) = true then
      q_run qm_X10_duel call 48 [.ref l0, .int l1, .int l2, .int l3] [.ref l0] h8
    else
      q_gR h8 (.ref l0) 10 6 fun r10 =>
      q_rcv h8 (.ref r10) 1 (q_rI (call 24 [.ref r10, .int l2] h8) q_t0 fun x12 h11 =>
      if q_cmp .eq x12 (0 : Int32) = true then
        q_run qm_X10_duel call 48 [.ref l0, .int l1, .int l2, .int l3] [.ref l0] h11
      else
        q_run qm_X10_duel call 49 [.ref l0, .int l1, .int l2, .int l3] [.int (1 : Int32), .ref l0] h11))))) := by
  refine (q_cut_eq _ _ [0, 48, 49, 95] 200 _ _ _ _).trans ?_
  rfl
set_option maxRecDepth 20000 in
theorem k_X10_duel_48 (call : Nat → List Value → qH → qR) (l0 : Nat) (l1 : Int32) (l2 : Int32) (l3 : Int32) (s0 : Nat) (h : qH) : q_run qm_X10_duel call 48 [.ref l0, .int l1, .int l2, .int l3] [.ref s0] h =
  q_run qm_X10_duel call 49 [.ref l0, .int l1, .int l2, .int l3] [.int (0 : Int32), .ref s0] h := by
  refine (q_cut_eq _ _ [0, 48, 49, 95] 200 _ _ _ _).trans ?_
  rfl
set_option maxRecDepth 20000 in
theorem k_X10_duel_49 (call : Nat → List Value → qH → qR) (l0 : Nat) (l1 : Int32) (l2 : Int32) (l3 : Int32) (s0 : Nat) (s1 : Int32) (h : qH) : q_run qm_X10_duel call 49 [.ref l0, .int l1, .int l2, .int l3] [.int s1, .ref s0] h =
  q_rcv h (.ref s0) 10 (q_rV (call 162 [.ref s0, .int s1] h) q_t0 fun h1 =>
  q_gR h1 (.ref l0) 10 9 fun r3 =>
  q_rcv h1 (.ref r3) 3 (q_rV (call 55 [.ref r3, .int l1, .int l2] h1) q_t0 fun h4 =>
  if q_cmp .ne l3 (0 : Int32) = true then
    if q_cmp .ne l3 (1 : Int32) = true then
      q_gR h4 (.ref l0) 10 9 fun r6 =>
      q_gI h4 (.ref r6) 3 9 fun x7 =>
      q_run qm_X10_duel call 95 [.ref l0, .int l1, .int l2, .int l3] [.int x7] h4
    else
      q_gR h4 (.ref l0) 10 9 fun r8 =>
      q_gI h4 (.ref r8) 3 8 fun x9 =>
      q_run qm_X10_duel call 95 [.ref l0, .int l1, .int l2, .int l3] [.int x9] h4
  else
    q_gR h4 (.ref l0) 10 9 fun r10 =>
    q_gI h4 (.ref r10) 3 7 fun x11 =>
    some (.inl (some (.int x11)), h4))) := by
  refine (q_cut_eq _ _ [0, 48, 49, 95] 200 _ _ _ _).trans ?_
  rfl
set_option maxRecDepth 20000 in
theorem k_X10_duel_95 (call : Nat → List Value → qH → qR) (l0 : Value) (l1 : Value) (l2 : Value) (l3 : Value) (s0 : Int32) (h : qH) : q_run qm_X10_duel call 95 [l0, l1, l2, l3] [.int s0] h =
  some (.inl (some (.int s0)), h) := by
  refine (q_cut_eq _ _ [0, 48, 49, 95] 200 _ _ _ _).trans ?_
  rfl
set_option maxRecDepth 20000 in
theorem k_X10_panic_0 (call : Nat → List Value → qH → qR) (l0 : Nat) (l1 : Int32) (l2 : Int32) (h : qH) : q_run qm_X10_panic call 0 [.ref l0, .int l1, .int l2, q_junk, q_junk, q_junk, q_junk] [] h =
  q_rcv h (.ref l0) 10 (q_rV (call 159 [.ref l0, .int l1] h) q_t0 fun h1 =>
  q_rcv h1 (.ref l0) 10 (q_rV (call 160 [.ref l0, .int l2, .int (2 : Int32)] h1) q_t0 fun h3 =>
  q_rcv h3 (.ref l0) 10 (q_rV (call 152 [.ref l0] h3) q_t0 fun h5 =>
  q_gR h5 (.ref l0) 10 7 fun r7 =>
  q_rcv h5 (.ref r7) 1 (q_rI (call 26 [.ref r7] h5) q_t0 fun x9 h8 =>
  q_gR h8 (.ref l0) 10 7 fun r10 =>
  q_rcv h8 (.ref r10) 1 (q_rI (call 28 [.ref r10] h8) q_t0 fun x12 h11 =>
  q_rI (call 310 [.int x12] h11) q_t0 fun x14 h13 =>
  q_gR h13 (.ref l0) 10 7 fun r15 =>
  q_rcv h13 (.ref r15) 1 (q_rI (call 29 [.ref r15] h13) q_t0 fun x17 h16 =>
  q_rI (call 310 [.int x17] h16) q_t0 fun x19 h18 =>
  q_run qm_X10_panic call 50 [.ref l0, .int l1, .int l2, .int x9, .int x14, .int x19, .int (0 : Int32)] [] h18)))))) := by
  refine (q_cut_eq _ _ [0, 50, 104, 159] 200 _ _ _ _).trans ?_
  rfl
set_option maxRecDepth 20000 in
theorem k_X10_panic_50 (call : Nat → List Value → qH → qR) (l0 : Nat) (l1 : Int32) (l2 : Int32) (l3 : Int32) (l4 : Int32) (l5 : Int32) (l6 : Int32) (h : qH) : q_run qm_X10_panic call 50 [.ref l0, .int l1, .int l2, .int l3, .int l4, .int l5, .int l6] [] h =
  q_gR h (.ref l0) 10 1 fun r1 =>
  q_gI h (.ref r1) 6 1 fun x2 =>
  if q_cmp .ge l6 x2 = true then
    if q_cmp .ne l2 (0 : Int32) = true then
      if q_cmp .ne l2 (1 : Int32) = true then
        q_gR h (.ref l0) 10 7 fun r3 =>
        q_rcv h (.ref r3) 1 (q_rI (call 27 [.ref r3] h) q_t0 fun x5 h4 =>
        q_rI (call 310 [.int x5] h4) q_t0 fun x7 h6 =>
        q_run qm_X10_panic call 159 [.ref l0, .int l1, .int l2, .int l3, .int l4, .int l5, .int l6] [.int x7] h6)
      else
        q_gR h (.ref l0) 10 7 fun r8 =>
        q_rcv h (.ref r8) 1 (q_rI (call 29 [.ref r8] h) q_t0 fun x10 h9 =>
        q_rI (call 310 [.int x10] h9) q_t0 fun x12 h11 =>
        q_run qm_X10_panic call 159 [.ref l0, .int l1, .int l2, .int l3, .int l4, .int l5, .int l6] [.int (x12 - l5)] h11)
    else
      q_gR h (.ref l0) 10 7 fun r13 =>
      q_rcv h (.ref r13) 1 (q_rI (call 28 [.ref r13] h) q_t0 fun x15 h14 =>
      q_rI (call 310 [.int x15] h14) q_t0 fun x17 h16 =>
      some (.inl (some (.int (x17 - l4))), h16))
  else
    if q_cmp .ne ((l3 >>> (l6 &&& 31)) &&& (1 : Int32)) (1 : Int32) = true then
      q_run qm_X10_panic call 104 [.ref l0, .int l1, .int l2, .int l3, .int l4, .int l5, .int l6] [] h
    else
      q_gR h (.ref l0) 10 7 fun r18 =>
      q_rcv h (.ref r18) 1 (q_rI (call 24 [.ref r18, .int l6] h) q_t0 fun x20 h19 =>
      if q_cmp .eq x20 (0 : Int32) = true then
        q_run qm_X10_panic call 104 [.ref l0, .int l1, .int l2, .int l3, .int l4, .int l5, .int l6] [] h19
      else
        q_gR h19 (.ref l0) 10 7 fun r21 =>
        q_gR h19 (.ref l0) 10 7 fun r22 =>
        q_rcv h19 (.ref r22) 1 (q_rI (call 34 [.ref r22, .int l6, .int l1] h19) q_t0 fun x24 h23 =>
        q_rcv h23 (.ref r21) 1 (q_rI (call 36 [.ref r21, .int l6, .int x24] h23) q_t0 fun x26 h25 =>
        q_run qm_X10_panic call 104 [.ref l0, .int l1, .int l2, .int l3, .int l4, .int l5, .int l6] [] h25))) := by
  refine (q_cut_eq _ _ [0, 50, 104, 159] 200 _ _ _ _).trans ?_
  rfl
set_option maxRecDepth 20000 in
theorem k_X10_panic_104 (call : Nat → List Value → qH → qR) (l0 : Nat) (l1 : Int32) (l2 : Int32) (l3 : Int32) (l4 : Int32) (l5 : Int32) (l6 : Int32) (h : qH) : q_run qm_X10_panic call 104 [.ref l0, .int l1, .int l2, .int l3, .int l4, .int l5, .int l6] [] h =
  q_run qm_X10_panic call 50 [.ref l0, .int l1, .int l2, .int l3, .int l4, .int l5, .int (l6 + (1 : Int32))] [] h := by
  refine (q_cut_eq _ _ [0, 50, 104, 159] 200 _ _ _ _).trans ?_
  rfl
set_option maxRecDepth 20000 in
theorem k_X10_panic_159 (call : Nat → List Value → qH → qR) (l0 : Value) (l1 : Value) (l2 : Value) (l3 : Value) (l4 : Value) (l5 : Value) (l6 : Value) (s0 : Int32) (h : qH) : q_run qm_X10_panic call 159 [l0, l1, l2, l3, l4, l5, l6] [.int s0] h =
  some (.inl (some (.int s0)), h) := by
  refine (q_cut_eq _ _ [0, 50, 104, 159] 200 _ _ _ _).trans ?_
  rfl
set_option maxRecDepth 20000 in
theorem k_X10_level_0 (call : Nat → List Value → qH → qR) (l0 : Nat) (l1 : Int32) (l2 : Int32) (h : qH) : q_run qm_X10_level call 0 [.ref l0, .int l1, .int l2, q_junk, q_junk] [] h =
  q_rcv h (.ref l0) 10 (q_rV (call 155 [.ref l0, .int l1] h) q_t0 fun h1 =>
  q_rcv h1 (.ref l0) 10 (q_rV (call 161 [.ref l0, .int l2, .int (0 : Int32), .int (9999 : Int32)] h1) q_t0 fun h3 =>
  q_run qm_X10_level call 21 [.ref l0, .int l1, .int l2, .int (0 : Int32), .int (8192 : Int32)] [] h3)) := by
  refine (q_cut_eq _ _ [0, 21, 46] 200 _ _ _ _).trans ?_
  rfl
set_option maxRecDepth 20000 in
theorem k_X10_level_21 (call : Nat → List Value → qH → qR) (l0 : Nat) (l1 : Int32) (l2 : Int32) (l3 : Int32) (l4 : Int32) (h : qH) : q_run qm_X10_level call 21 [.ref l0, .int l1, .int l2, .int l3, .int l4] [] h =
  if q_cmp .le l4 (0 : Int32) = true then
    q_gR h (.ref l0) 10 6 fun r1 =>
    q_gR h (.ref r1) 1 5 fun r2 =>
    q_ald h (.ref r2) 0 l1 fun x3 =>
    some (.inl (some (.int (if l3 < x3 then l3 else x3))), h)
  else
    q_gR h (.ref l0) 10 6 fun r4 =>
    q_rcv h (.ref r4) 1 (q_rI (call 32 [.ref r4, .int (l3 + l4)] h) q_t0 fun x6 h5 =>
    if q_cmp .gt x6 l2 = true then
      q_run qm_X10_level call 46 [.ref l0, .int l1, .int l2, .int l3, .int l4] [] h5
    else
      q_run qm_X10_level call 46 [.ref l0, .int l1, .int l2, .int (l3 + l4), .int l4] [] h5) := by
  refine (q_cut_eq _ _ [0, 21, 46] 200 _ _ _ _).trans ?_
  rfl
set_option maxRecDepth 20000 in
theorem k_X10_level_46 (call : Nat → List Value → qH → qR) (l0 : Nat) (l1 : Int32) (l2 : Int32) (l3 : Int32) (l4 : Int32) (h : qH) : q_run qm_X10_level call 46 [.ref l0, .int l1, .int l2, .int l3, .int l4] [] h =
  q_run qm_X10_level call 21 [.ref l0, .int l1, .int l2, .int l3, .int (l4 >>> ((1 : Int32) &&& 31))] [] h := by
  refine (q_cut_eq _ _ [0, 21, 46] 200 _ _ _ _).trans ?_
  rfl
set_option maxRecDepth 20000 in
theorem k_X10_richest_0 (call : Nat → List Value → qH → qR) (l0 : Nat) (l1 : Int32) (h : qH) : q_run qm_X10_richest call 0 [.ref l0, .int l1, q_junk, q_junk] [] h =
  q_rcv h (.ref l0) 10 (q_rV (call 160 [.ref l0, .int l1, .int (1 : Int32)] h) q_t0 fun h1 =>
  q_gR h1 (.ref l0) 10 1 fun r3 =>
  q_gI h1 (.ref r3) 6 0 fun x4 =>
  if q_cmp .ne x4 (0 : Int32) = true then
    q_run qm_X10_richest call 22 [.ref l0, .int l1, .int (0 : Int32), .int (1 : Int32)] [] h1
  else
    some (.inl (some (.int (-1 : Int32))), h1)) := by
  refine (q_cut_eq _ _ [0, 22, 56, 79] 200 _ _ _ _).trans ?_
  rfl
set_option maxRecDepth 20000 in
theorem k_X10_richest_22 (call : Nat → List Value → qH → qR) (l0 : Nat) (l1 : Int32) (l2 : Int32) (l3 : Int32) (h : qH) : q_run qm_X10_richest call 22 [.ref l0, .int l1, .int l2, .int l3] [] h =
  q_gR h (.ref l0) 10 1 fun r1 =>
  q_gI h (.ref r1) 6 0 fun x2 =>
  if q_cmp .ge l3 x2 = true then
    if q_cmp .ne l1 (0 : Int32) = true then
      q_gR h (.ref l0) 10 6 fun r3 =>
      q_gR h (.ref r3) 1 5 fun r4 =>
      q_ald h (.ref r4) 0 l2 fun x5 =>
      q_run qm_X10_richest call 79 [.ref l0, .int l1, .int l2, .int l3] [.int x5] h
    else
      q_run qm_X10_richest call 79 [.ref l0, .int l1, .int l2, .int l3] [.int l2] h
  else
    q_gR h (.ref l0) 10 6 fun r6 =>
    q_gR h (.ref r6) 1 5 fun r7 =>
    q_ald h (.ref r7) 0 l3 fun x8 =>
    q_gR h (.ref l0) 10 6 fun r9 =>
    q_gR h (.ref r9) 1 5 fun r10 =>
    q_ald h (.ref r10) 0 l2 fun x11 =>
    if q_cmp .le x8 x11 = true then
      q_run qm_X10_richest call 56 [.ref l0, .int l1, .int l2, .int l3] [] h
    else
      q_run qm_X10_richest call 56 [.ref l0, .int l1, .int l3, .int l3] [] h := by
  refine (q_cut_eq _ _ [0, 22, 56, 79] 200 _ _ _ _).trans ?_
  rfl
set_option maxRecDepth 20000 in
theorem k_X10_richest_56 (call : Nat → List Value → qH → qR) (l0 : Nat) (l1 : Int32) (l2 : Int32) (l3 : Int32) (h : qH) : q_run qm_X10_richest call 56 [.ref l0, .int l1, .int l2, .int l3] [] h =
  q_run qm_X10_richest call 22 [.ref l0, .int l1, .int l2, .int (l3 + (1 : Int32))] [] h := by
  refine (q_cut_eq _ _ [0, 22, 56, 79] 200 _ _ _ _).trans ?_
  rfl
set_option maxRecDepth 20000 in
theorem k_X10_richest_79 (call : Nat → List Value → qH → qR) (l0 : Value) (l1 : Value) (l2 : Value) (l3 : Value) (s0 : Int32) (h : qH) : q_run qm_X10_richest call 79 [l0, l1, l2, l3] [.int s0] h =
  some (.inl (some (.int s0)), h) := by
  refine (q_cut_eq _ _ [0, 22, 56, 79] 200 _ _ _ _).trans ?_
  rfl
set_option maxRecDepth 20000 in
theorem k_X10_ahead_0 (call : Nat → List Value → qH → qR) (l0 : Nat) (l1 : Int32) (l2 : Int32) (h : qH) : q_run qm_X10_ahead call 0 [.ref l0, .int l1, .int l2, q_junk] [] h =
  q_rcv h (.ref l0) 10 (q_rV (call 155 [.ref l0, .int l1] h) q_t0 fun h1 =>
  q_rcv h1 (.ref l0) 10 (q_rV (call 161 [.ref l0, .int l2, .int (0 : Int32), .int (100 : Int32)] h1) q_t0 fun h3 =>
  q_rcv h3 (.ref l0) 10 (q_rV (call 152 [.ref l0] h3) q_t0 fun h5 =>
  q_run qm_X10_ahead call 19 [.ref l0, .int l1, .int l2, .int (0 : Int32)] [] h5))) := by
  refine (q_cut_eq _ _ [0, 19] 200 _ _ _ _).trans ?_
  rfl
set_option maxRecDepth 20000 in
theorem k_X10_ahead_19 (call : Nat → List Value → qH → qR) (l0 : Nat) (l1 : Int32) (l2 : Int32) (l3 : Int32) (h : qH) : q_run qm_X10_ahead call 19 [.ref l0, .int l1, .int l2, .int l3] [] h =
  if q_cmp .ge l3 l2 = true then
    q_gR h (.ref l0) 10 7 fun r1 =>
    q_gR h (.ref r1) 1 5 fun r2 =>
    q_ald h (.ref r2) 0 l1 fun x3 =>
    some (.inl (some (.int x3)), h)
  else
    q_gR h (.ref l0) 10 7 fun r4 =>
    q_rcv h (.ref r4) 1 (q_rV (call 43 [.ref r4] h) q_t0 fun h5 =>
    q_run qm_X10_ahead call 19 [.ref l0, .int l1, .int l2, .int (l3 + (1 : Int32))] [] h5) := by
  refine (q_cut_eq _ _ [0, 19] 200 _ _ _ _).trans ?_
  rfl
set_option maxRecDepth 20000 in
theorem k_X10_season_0 (call : Nat → List Value → qH → qR) (l0 : Nat) (l1 : Int32) (l2 : Int32) (l3 : Int32) (l4 : Int32) (h : qH) : q_run qm_X10_season call 0 [.ref l0, .int l1, .int l2, .int l3, .int l4] [] h =
  q_rcv h (.ref l0) 10 (q_rV (call 161 [.ref l0, .int l2, .int (0 : Int32), .int (16 : Int32)] h) q_t0 fun h1 =>
  q_rcv h1 (.ref l0) 10 (q_rV (call 161 [.ref l0, .int l3, .int (1 : Int32), .int (96 : Int32)] h1) q_t0 fun h3 =>
  q_rcv h3 (.ref l0) 10 (q_rV (call 160 [.ref l0, .int l4, .int (3 : Int32)] h3) q_t0 fun h5 =>
  q_rcv h5 (.ref l0) 10 (q_rV (call 152 [.ref l0] h5) q_t0 fun h7 =>
  q_gR h7 (.ref l0) 10 10 fun r9 =>
  q_rcv h7 (.ref r9) 7 (q_rV (call 88 [.ref r9, .int l1, .int l2, .int l3] h7) q_t0 fun h10 =>
  q_run qm_X10_season call 39 [.ref l0, .int l1, .int l2, .int l3, .int l4] [.int l4] h10))))) := by
  refine (q_cut_eq _ _ [0, 39] 200 _ _ _ _).trans ?_
  rfl
set_option maxRecDepth 20000 in
theorem k_X10_season_39_c0 (call : Nat → List Value → qH → qR) (l0 : Nat) (l1 : Value) (l2 : Value) (l3 : Value) (l4 : Value) (h : qH) : q_run qm_X10_season call 39 [.ref l0, l1, l2, l3, l4] [.int (0 : Int32)] h =
  q_gR h (.ref l0) 10 7 fun r1 =>
  q_rcv h (.ref r1) 1 (q_rI (call 28 [.ref r1] h) q_t0 fun x3 h2 =>
  q_rI (call 310 [.int x3] h2) q_t0 fun x5 h4 =>
  some (.inl (some (.int x5)), h4)) := by
  refine (q_cut_eq _ _ [0, 39] 200 _ _ _ _).trans ?_
  rfl
set_option maxRecDepth 20000 in
theorem k_X10_season_39_c1 (call : Nat → List Value → qH → qR) (l0 : Nat) (l1 : Value) (l2 : Value) (l3 : Value) (l4 : Value) (h : qH) : q_run qm_X10_season call 39 [.ref l0, l1, l2, l3, l4] [.int (1 : Int32)] h =
  q_gR h (.ref l0) 10 7 fun r1 =>
  q_rcv h (.ref r1) 1 (q_rI (call 29 [.ref r1] h) q_t0 fun x3 h2 =>
  q_rI (call 310 [.int x3] h2) q_t0 fun x5 h4 =>
  some (.inl (some (.int x5)), h4)) := by
  refine (q_cut_eq _ _ [0, 39] 200 _ _ _ _).trans ?_
  rfl
set_option maxRecDepth 20000 in
theorem k_X10_season_39_c2 (call : Nat → List Value → qH → qR) (l0 : Nat) (l1 : Value) (l2 : Value) (l3 : Value) (l4 : Value) (h : qH) : q_run qm_X10_season call 39 [.ref l0, l1, l2, l3, l4] [.int (2 : Int32)] h =
  q_gR h (.ref l0) 10 10 fun r1 =>
  q_gI h (.ref r1) 7 3 fun x2 =>
  some (.inl (some (.int x2)), h) := by
  refine (q_cut_eq _ _ [0, 39] 200 _ _ _ _).trans ?_
  rfl
set_option maxRecDepth 20000 in
theorem k_X10_season_39_d (call : Nat → List Value → qH → qR) (l0 : Nat) (l1 : Value) (l2 : Value) (l3 : Value) (l4 : Value) (s0 : Int32) (h : qH) (hx : s0.toInt < 0 ∨ 2 < s0.toInt) : q_run qm_X10_season call 39 [.ref l0, l1, l2, l3, l4] [.int s0] h =
  q_gR h (.ref l0) 10 7 fun r1 =>
  q_rcv h (.ref r1) 1 (q_rI (call 32 [.ref r1, .int (9999 : Int32)] h) q_t0 fun x3 h2 =>
  some (.inl (some (.int x3)), h2)) := by
  refine (q_cut_eq _ _ [0, 39] 200 _ _ _ _).trans ?_
  exact if_pos hx
set_option maxRecDepth 20000 in
theorem k_X10_span_0 (call : Nat → List Value → qH → qR) (l0 : Nat) (l1 : Int32) (l2 : Int32) (l3 : Int32) (l4 : Int32) (l5 : Int32) (h : qH) : q_run qm_X10_span call 0 [.ref l0, .int l1, .int l2, .int l3, .int l4, .int l5, q_junk, q_junk, q_junk, q_junk, q_junk] [] h =
  q_rcv h (.ref l0) 10 (q_rV (call 161 [.ref l0, .int l2, .int (1 : Int32), .int (20 : Int32)] h) q_t0 fun h1 =>
  q_rcv h1 (.ref l0) 10 (q_rV (call 161 [.ref l0, .int l3, .int (0 : Int32), .int (16 : Int32)] h1) q_t0 fun h3 =>
  q_rcv h3 (.ref l0) 10 (q_rV (call 161 [.ref l0, .int l4, .int (1 : Int32), .int (96 : Int32)] h3) q_t0 fun h5 =>
  q_rcv h5 (.ref l0) 10 (q_rV (call 160 [.ref l0, .int l5, .int (2 : Int32)] h5) q_t0 fun h7 =>
  q_run qm_X10_span call 45 [.ref l0, .int l1, .int l2, .int l3, .int l4, .int l5, .int (10 : Int32), .int (0 : Int32), .int (0 : Int32), .int (0 : Int32), q_junk] [] h7)))) := by
  refine (q_cut_eq _ _ [0, 45, 116, 146] 200 _ _ _ _).trans ?_
  rfl
set_option maxRecDepth 20000 in
theorem k_X10_span_45 (call : Nat → List Value → qH → qR) (l0 : Nat) (l1 : Int32) (l2 : Int32) (l3 : Int32) (l4 : Int32) (l5 : Int32) (l6 : Int32) (l7 : Int32) (l8 : Int32) (l9 : Int32) (l10 : Value) (h : qH) : q_run qm_X10_span call 45 [.ref l0, .int l1, .int l2, .int l3, .int l4, .int l5, .int l6, .int l7, .int l8, .int l9, l10] [] h =
  if q_cmp .ge l9 l2 = true then
    if q_cmp .ne l5 (0 : Int32) = true then
      if q_cmp .ne l5 (1 : Int32) = true then
        q_run qm_X10_span call 146 [.ref l0, .int l1, .int l2, .int l3, .int l4, .int l5, .int l6, .int l7, .int l8, .int l9, l10] [.int l8] h
      else
        q_run qm_X10_span call 146 [.ref l0, .int l1, .int l2, .int l3, .int l4, .int l5, .int l6, .int l7, .int l8, .int l9, l10] [.int l7] h
    else
      some (.inl (some (.int l6)), h)
  else
    q_rcv h (.ref l0) 10 (q_rV (call 152 [.ref l0] h) q_t0 fun h1 =>
    q_gR h1 (.ref l0) 10 10 fun r3 =>
    q_rcv h1 (.ref r3) 7 (q_rV (call 88 [.ref r3, .int (l1 + l9), .int l3, .int l4] h1) q_t0 fun h4 =>
    q_gR h4 (.ref l0) 10 7 fun r6 =>
    q_rcv h4 (.ref r6) 1 (q_rI (call 28 [.ref r6] h4) q_t0 fun x8 h7 =>
    q_rI (call 310 [.int x8] h7) q_t0 fun x10 h9 =>
    q_gR h9 (.ref l0) 10 7 fun r11 =>
    q_rcv h9 (.ref r11) 1 (q_rI (call 29 [.ref r11] h9) q_t0 fun x13 h12 =>
    if q_cmp .ne x13 (0 : Int32) = true then
      q_run qm_X10_span call 116 [.ref l0, .int l1, .int l2, .int l3, .int l4, .int l5, .int (if x10 < l6 then x10 else l6), .int (if l7 < x10 then x10 else l7), .int l8, .int l9, .int x10] [.int (0 : Int32), .int l8] h12
    else
      q_run qm_X10_span call 116 [.ref l0, .int l1, .int l2, .int l3, .int l4, .int l5, .int (if x10 < l6 then x10 else l6), .int (if l7 < x10 then x10 else l7), .int l8, .int l9, .int x10] [.int (1 : Int32), .int l8] h12)))) := by
  refine (q_cut_eq _ _ [0, 45, 116, 146] 200 _ _ _ _).trans ?_
  rfl
set_option maxRecDepth 20000 in
theorem k_X10_span_116 (call : Nat → List Value → qH → qR) (l0 : Nat) (l1 : Int32) (l2 : Int32) (l3 : Int32) (l4 : Int32) (l5 : Int32) (l6 : Int32) (l7 : Int32) (l8 : Value) (l9 : Int32) (l10 : Value) (s0 : Int32) (s1 : Int32) (h : qH) : q_run qm_X10_span call 116 [.ref l0, .int l1, .int l2, .int l3, .int l4, .int l5, .int l6, .int l7, l8, .int l9, l10] [.int s1, .int s0] h =
  q_run qm_X10_span call 45 [.ref l0, .int l1, .int l2, .int l3, .int l4, .int l5, .int l6, .int l7, .int (s0 + s1), .int (l9 + (1 : Int32)), l10] [] h := by
  refine (q_cut_eq _ _ [0, 45, 116, 146] 200 _ _ _ _).trans ?_
  rfl
set_option maxRecDepth 20000 in
theorem k_X10_span_146 (call : Nat → List Value → qH → qR) (l0 : Value) (l1 : Value) (l2 : Value) (l3 : Value) (l4 : Value) (l5 : Value) (l6 : Value) (l7 : Value) (l8 : Value) (l9 : Value) (l10 : Value) (s0 : Int32) (h : qH) : q_run qm_X10_span call 146 [l0, l1, l2, l3, l4, l5, l6, l7, l8, l9, l10] [.int s0] h =
  some (.inl (some (.int s0)), h) := by
  refine (q_cut_eq _ _ [0, 45, 116, 146] 200 _ _ _ _).trans ?_
  rfl
set_option maxRecDepth 20000 in
theorem k_X10_undo_0 (call : Nat → List Value → qH → qR) (l0 : Nat) (h : qH) : q_run qm_X10_undo call 0 [.ref l0] [] h =
  q_gN h (.ref l0) 10 13 (some (.inl (some (.int (-1 : Int32))), h)) fun r1 =>
  q_gN h (.ref l0) 10 13 (q_rcv h (.ref l0) 10 (q_rV (call 151 [.ref l0, .null] h) q_t0 fun h3 =>
      q_rcv h3 (.ref l0) 10 (q_rI (call 149 [.ref l0] h3) q_t0 fun x6 h5 =>
      some (.inl (some (.int x6)), h5)))) fun r2 =>
    q_rcv h (.ref l0) 10 (q_rV (call 151 [.ref l0, .ref r2] h) q_t0 fun h7 =>
      q_rcv h7 (.ref l0) 10 (q_rI (call 149 [.ref l0] h7) q_t0 fun x10 h9 =>
      some (.inl (some (.int x10)), h9))) := by
  refine (q_cut_eq _ _ [0] 200 _ _ _ _).trans ?_
  rfl
set_option maxRecDepth 20000 in
theorem k_X10_image_0 (call : Nat → List Value → qH → qR) (l0 : Nat) (h : qH) : q_run qm_X10_image call 0 [.ref l0] [] h =
  q_gI h (.ref l0) 10 14 fun x1 =>
  if q_cmp .lt x1 (0 : Int32) = true then
    q_run qm_X10_image call 19 [.ref l0] [] h
  else
    q_gI h (.ref l0) 10 14 fun x2 =>
    q_gR h (.ref l0) 10 11 fun r3 =>
    q_len h (.ref r3) fun x4 =>
    if q_cmp .lt x2 x4 = true then
      q_gR h (.ref l0) 10 11 fun r5 =>
      q_gI h (.ref l0) 10 14 fun x6 =>
      q_rcv h (.ref l0) 10 (q_rR (call 150 [.ref l0] h) q_t0 fun vr8 h7 =>
      q_rst h7 (.ref r5) x6 (vr8) fun h9 =>
      q_gI h9 (.ref l0) 10 14 fun x10 =>
      q_pV h9 (.ref l0) 10 14 (.int (x10 + (1 : Int32))) fun h11 =>
      q_gI h11 (.ref l0) 10 14 fun x12 =>
      some (.inl (some (.int x12)), h11))
    else
      q_run qm_X10_image call 19 [.ref l0] [] h := by
  refine (q_cut_eq _ _ [0, 19] 200 _ _ _ _).trans ?_
  rfl
set_option maxRecDepth 20000 in
theorem k_X10_image_19 (call : Nat → List Value → qH → qR) (l0 : Value) (h : qH) : q_run qm_X10_image call 19 [l0] [] h =
  some (.inl (some (.int (-1 : Int32))), h) := by
  refine (q_cut_eq _ _ [0, 19] 200 _ _ _ _).trans ?_
  rfl
set_option maxRecDepth 20000 in
theorem k_X10_restore_0 (call : Nat → List Value → qH → qR) (l0 : Nat) (h : qH) : q_run qm_X10_restore call 0 [.ref l0, q_junk] [] h =
  q_gI h (.ref l0) 10 14 fun x1 =>
  if q_cmp .lt x1 (1 : Int32) = true then
    q_run qm_X10_restore call 20 [.ref l0, q_junk] [] h
  else
    q_gI h (.ref l0) 10 14 fun x2 =>
    q_gR h (.ref l0) 10 11 fun r3 =>
    q_len h (.ref r3) fun x4 =>
    if q_cmp .le x2 x4 = true then
      q_gI h (.ref l0) 10 14 fun x5 =>
      q_pV h (.ref l0) 10 14 (.int (x5 - (1 : Int32))) fun h6 =>
      q_gR h6 (.ref l0) 10 11 fun r7 =>
      q_gI h6 (.ref l0) 10 14 fun x8 =>
      q_rld h6 (.ref r7) x8 (q_run qm_X10_restore call 51 [.ref l0, .null] [] h6) fun r9 =>
      q_rcv h6 (.ref l0) 10 (q_rV (call 151 [.ref l0, .ref r9] h6) q_t0 fun h10 =>
        q_run qm_X10_restore call 51 [.ref l0, .ref r9] [] h10)
    else
      q_run qm_X10_restore call 20 [.ref l0, q_junk] [] h := by
  refine (q_cut_eq _ _ [0, 20, 51] 200 _ _ _ _).trans ?_
  rfl
set_option maxRecDepth 20000 in
theorem k_X10_restore_20 (call : Nat → List Value → qH → qR) (l0 : Value) (l1 : Value) (h : qH) : q_run qm_X10_restore call 20 [l0, l1] [] h =
  some (.inl (some (.int (-1 : Int32))), h) := by
  refine (q_cut_eq _ _ [0, 20, 51] 200 _ _ _ _).trans ?_
  rfl
set_option maxRecDepth 20000 in
theorem k_X10_restore_51 (call : Nat → List Value → qH → qR) (l0 : Nat) (l1 : Value) (h : qH) : q_run qm_X10_restore call 51 [.ref l0, l1] [] h =
  q_gI h (.ref l0) 10 14 fun x1 =>
  some (.inl (some (.int x1)), h) := by
  refine (q_cut_eq _ _ [0, 20, 51] 200 _ _ _ _).trans ?_
  rfl
set_option maxRecDepth 20000 in
theorem k_X10_status_0 (call : Nat → List Value → qH → qR) (l0 : Nat) (l1 : Int32) (h : qH) : q_run qm_X10_status call 0 [.ref l0, .int l1] [] h =
  q_run qm_X10_status call 1 [.ref l0, .int l1] [.int l1] h := by
  refine (q_cut_eq _ _ [0, 1] 200 _ _ _ _).trans ?_
  rfl
set_option maxRecDepth 20000 in
theorem k_X10_status_1_c0 (call : Nat → List Value → qH → qR) (l0 : Nat) (l1 : Value) (h : qH) : q_run qm_X10_status call 1 [.ref l0, l1] [.int (0 : Int32)] h =
  q_gI h (.ref l0) 10 16 fun x1 =>
  some (.inl (some (.int x1)), h) := by
  refine (q_cut_eq _ _ [0, 1] 200 _ _ _ _).trans ?_
  rfl
set_option maxRecDepth 20000 in
theorem k_X10_status_1_c1 (call : Nat → List Value → qH → qR) (l0 : Nat) (l1 : Value) (h : qH) : q_run qm_X10_status call 1 [.ref l0, l1] [.int (1 : Int32)] h =
  q_gI h (.ref l0) 10 17 fun x1 =>
  some (.inl (some (.int x1)), h) := by
  refine (q_cut_eq _ _ [0, 1] 200 _ _ _ _).trans ?_
  rfl
set_option maxRecDepth 20000 in
theorem k_X10_count_0 (call : Nat → List Value → qH → qR) (l0 : Nat) (l1 : Int32) (h : qH) : q_run qm_X10_count call 0 [.ref l0, .int l1] [] h =
  q_run qm_X10_count call 1 [.ref l0, .int l1] [.int l1] h := by
  refine (q_cut_eq _ _ [0, 1] 200 _ _ _ _).trans ?_
  rfl
set_option maxRecDepth 20000 in
theorem k_X10_count_1_c0 (call : Nat → List Value → qH → qR) (l0 : Nat) (l1 : Value) (h : qH) : q_run qm_X10_count call 1 [.ref l0, l1] [.int (0 : Int32)] h =
  q_gI h (.ref l0) 10 14 fun x1 =>
  some (.inl (some (.int x1)), h) := by
  refine (q_cut_eq _ _ [0, 1] 200 _ _ _ _).trans ?_
  rfl
set_option maxRecDepth 20000 in
theorem k_X10_count_1_c1 (call : Nat → List Value → qH → qR) (l0 : Nat) (l1 : Value) (h : qH) : q_run qm_X10_count call 1 [.ref l0, l1] [.int (1 : Int32)] h =
  q_gR h (.ref l0) 10 0 fun r1 =>
  q_gI h (.ref r1) 9 1 fun x2 =>
  some (.inl (some (.int x2)), h) := by
  refine (q_cut_eq _ _ [0, 1] 200 _ _ _ _).trans ?_
  rfl
set_option maxRecDepth 20000 in
theorem k_X10_count_1_c2 (call : Nat → List Value → qH → qR) (l0 : Nat) (l1 : Value) (h : qH) : q_run qm_X10_count call 1 [.ref l0, l1] [.int (2 : Int32)] h =
  q_rcv h (.ref l0) 10 (q_rI (call 149 [.ref l0] h) q_t0 fun x2 h1 =>
  some (.inl (some (.int x2)), h1)) := by
  refine (q_cut_eq _ _ [0, 1] 200 _ _ _ _).trans ?_
  rfl
set_option maxRecDepth 20000 in
theorem k_X10_count_1_d (call : Nat → List Value → qH → qR) (l0 : Nat) (l1 : Value) (s0 : Int32) (h : qH) (hx : s0.toInt < 0 ∨ 2 < s0.toInt) : q_run qm_X10_count call 1 [.ref l0, l1] [.int s0] h =
  some (.inl (some (.int (-1 : Int32))), h) := by
  refine (q_cut_eq _ _ [0, 1] 200 _ _ _ _).trans ?_
  exact if_pos hx
set_option maxRecDepth 20000 in
theorem k_X10_playCount_0 (call : Nat → List Value → qH → qR) (l0 : Nat) (h : qH) : q_run qm_X10_playCount call 0 [.ref l0] [] h =
  q_gN h (.ref l0) 10 13 (q_run qm_X10_playCount call 18 [.ref l0] [.int (0 : Int32)] h) fun r1 =>
  q_gN h (.ref l0) 10 13 (q_gI h (.null) 4 2 fun x3 =>
      q_run qm_X10_playCount call 18 [.ref l0] [.int x3] h) fun r2 =>
    q_gI h (.ref r2) 4 2 fun x4 =>
      q_run qm_X10_playCount call 18 [.ref l0] [.int x4] h := by
  refine (q_cut_eq _ _ [0, 18] 200 _ _ _ _).trans ?_
  rfl
set_option maxRecDepth 20000 in
theorem k_X10_playCount_18 (call : Nat → List Value → qH → qR) (l0 : Value) (s0 : Int32) (h : qH) : q_run qm_X10_playCount call 18 [l0] [.int s0] h =
  some (.inl (some (.int s0)), h) := by
  refine (q_cut_eq _ _ [0, 18] 200 _ _ _ _).trans ?_
  rfl
set_option maxRecDepth 20000 in
theorem k_X10_keepNow_0 (call : Nat → List Value → qH → qR) (l0 : Nat) (h : qH) : q_run qm_X10_keepNow call 0 [.ref l0, q_junk] [] h =
  q_gN ((h ++ [.inr (4, [.null, .null, .int 0])])) (.ref l0) 10 13 (q_rcv ((h ++ [.inr (4, [.null, .null, .int 0])])) (.ref (List.length h)) 4 (q_rV (call 62 [.ref (List.length h), .null] ((h ++ [.inr (4, [.null, .null, .int 0])]))) (fun _ _ _ => none) fun h2 =>
    q_gR h2 (.ref l0) 10 6 fun r3 =>
    q_gR h2 (.ref (List.length h)) 4 0 fun r4 =>
    q_rcv h2 (.ref r3) 1 (q_rV (call 20 [.ref r3, .ref r4] h2) q_t0 fun h5 =>
    some (.inl (some (.ref (List.length h))), h5)))) fun r1 =>
  q_rcv ((h ++ [.inr (4, [.null, .null, .int 0])])) (.ref (List.length h)) 4 (q_rV (call 62 [.ref (List.length h), .ref r1] ((h ++ [.inr (4, [.null, .null, .int 0])]))) (fun _ _ _ => none) fun h7 =>
    q_gR h7 (.ref l0) 10 6 fun r8 =>
    q_gR h7 (.ref (List.length h)) 4 0 fun r9 =>
    q_rcv h7 (.ref r8) 1 (q_rV (call 20 [.ref r8, .ref r9] h7) q_t0 fun h10 =>
    some (.inl (some (.ref (List.length h))), h10))) := by
  refine (q_cut_eq _ _ [0] 200 _ _ _ _).trans ?_
  rfl
set_option maxRecDepth 20000 in
theorem k_X10_goBackTo_0 (call : Nat → List Value → qH → qR) (l0 : Nat) (l1 : Nat) (h : qH) : q_run qm_X10_goBackTo call 0 [.ref l0, .ref l1] [] h =
  q_gR h (.ref l0) 10 6 fun r1 =>
  q_gR h (.ref l1) 4 0 fun r2 =>
  q_rcv h (.ref r1) 1 (q_rV (call 21 [.ref r1, .ref r2] h) q_t0 fun h3 =>
  q_gN h3 (.ref l1) 4 1 (q_pV h3 (.ref l0) 10 13 (.null) fun h6 =>
    q_pV h6 (.ref l0) 10 15 (.int (0 : Int32)) fun h7 =>
    some (.inl none, h7)) fun r5 =>
  q_pV h3 (.ref l0) 10 13 (.ref r5) fun h8 =>
    q_pV h8 (.ref l0) 10 15 (.int (0 : Int32)) fun h9 =>
    some (.inl none, h9)) := by
  refine (q_cut_eq _ _ [0] 200 _ _ _ _).trans ?_
  rfl
set_option maxRecDepth 20000 in
theorem k_X10_startTrial_0 (call : Nat → List Value → qH → qR) (l0 : Nat) (h : qH) : q_run qm_X10_startTrial call 0 [.ref l0] [] h =
  q_gR h (.ref l0) 10 6 fun r1 =>
  q_gR h (.ref l0) 10 12 fun r2 =>
  q_rcv h (.ref r1) 1 (q_rV (call 20 [.ref r1, .ref r2] h) q_t0 fun h3 =>
  q_gR h3 (.ref l0) 10 7 fun r5 =>
  q_gR h3 (.ref l0) 10 12 fun r6 =>
  q_rcv h3 (.ref r5) 1 (q_rV (call 21 [.ref r5, .ref r6] h3) q_t0 fun h7 =>
  some (.inl none, h7))) := by
  refine (q_cut_eq _ _ [0] 200 _ _ _ _).trans ?_
  rfl
set_option maxRecDepth 20000 in
theorem k_X10_openText_0 (call : Nat → List Value → qH → qR) (l0 : Nat) (l1 : Int32) (l2 : Int32) (h : qH) : q_run qm_X10_openText call 0 [.ref l0, .int l1, .int l2] [] h =
  if q_cmp .lt l1 (0 : Int32) = true then
    q_run qm_X10_openText call 25 [.ref l0, .int l1, .int l2] [.ref l0] h
  else
    if q_cmp .gt l1 l2 = true then
      q_run qm_X10_openText call 25 [.ref l0, .int l1, .int l2] [.ref l0] h
    else
      q_gR h (.ref l0) 10 0 fun r1 =>
      q_gI h (.ref r1) 9 1 fun x2 =>
      if q_cmp .gt l1 x2 = true then
        q_run qm_X10_openText call 25 [.ref l0, .int l1, .int l2] [.ref l0] h
      else
        q_run qm_X10_openText call 26 [.ref l0, .int l1, .int l2] [.int (1 : Int32), .ref l0] h := by
  refine (q_cut_eq _ _ [0, 25, 26] 200 _ _ _ _).trans ?_
  rfl
set_option maxRecDepth 20000 in
theorem k_X10_openText_25 (call : Nat → List Value → qH → qR) (l0 : Nat) (l1 : Int32) (l2 : Value) (s0 : Nat) (h : qH) : q_run qm_X10_openText call 25 [.ref l0, .int l1, l2] [.ref s0] h =
  q_run qm_X10_openText call 26 [.ref l0, .int l1, l2] [.int (0 : Int32), .ref s0] h := by
  refine (q_cut_eq _ _ [0, 25, 26] 200 _ _ _ _).trans ?_
  rfl
set_option maxRecDepth 20000 in
theorem k_X10_openText_26 (call : Nat → List Value → qH → qR) (l0 : Nat) (l1 : Int32) (l2 : Value) (s0 : Nat) (s1 : Int32) (h : qH) : q_run qm_X10_openText call 26 [.ref l0, .int l1, l2] [.int s1, .ref s0] h =
  q_rcv h (.ref s0) 10 (q_rV (call 162 [.ref s0, .int s1] h) q_t0 fun h1 =>
  q_gR h1 (.ref l0) 10 0 fun r3 =>
  q_rcv h1 (.ref r3) 9 (q_rV (call 102 [.ref r3, .int l1] h1) q_t0 fun h4 =>
  some (.inl none, h4))) := by
  refine (q_cut_eq _ _ [0, 25, 26] 200 _ _ _ _).trans ?_
  rfl
set_option maxRecDepth 20000 in
theorem k_X10_needThumb_0 (call : Nat → List Value → qH → qR) (l0 : Nat) (l1 : Int32) (l2 : Int32) (l3 : Int32) (l4 : Int32) (h : qH) : q_run qm_X10_needThumb call 0 [.ref l0, .int l1, .int l2, .int l3, .int l4] [] h =
  q_rcv h (.ref l0) 10 (q_rV (call 156 [.ref l0, .int l1] h) q_t0 fun h1 =>
  q_rcv h1 (.ref l0) 10 (q_rV (call 159 [.ref l0, .int l2] h1) q_t0 fun h3 =>
  q_rcv h3 (.ref l0) 10 (q_rV (call 161 [.ref l0, .int l3, .int (0 : Int32), .int (16 : Int32)] h3) q_t0 fun h5 =>
  q_rcv h5 (.ref l0) 10 (q_rV (call 160 [.ref l0, .int l4, .int (1 : Int32)] h5) q_t0 fun h7 =>
  some (.inl none, h7))))) := by
  refine (q_cut_eq _ _ [0] 200 _ _ _ _).trans ?_
  rfl
set_option maxRecDepth 20000 in
theorem k_X10_needHouse_0 (call : Nat → List Value → qH → qR) (l0 : Nat) (l1 : Int32) (h : qH) : q_run qm_X10_needHouse call 0 [.ref l0, .int l1] [] h =
  q_gR h (.ref l0) 10 1 fun r1 =>
  q_gI h (.ref r1) 6 0 fun x2 =>
  q_rcv h (.ref l0) 10 (q_rV (call 158 [.ref l0, .int l1, .int x2] h) q_t0 fun h3 =>
  some (.inl none, h3)) := by
  refine (q_cut_eq _ _ [0] 200 _ _ _ _).trans ?_
  rfl
set_option maxRecDepth 20000 in
theorem k_X10_needWink_0 (call : Nat → List Value → qH → qR) (l0 : Nat) (l1 : Int32) (h : qH) : q_run qm_X10_needWink call 0 [.ref l0, .int l1] [] h =
  q_gR h (.ref l0) 10 1 fun r1 =>
  q_gI h (.ref r1) 6 1 fun x2 =>
  q_rcv h (.ref l0) 10 (q_rV (call 158 [.ref l0, .int l1, .int x2] h) q_t0 fun h3 =>
  some (.inl none, h3)) := by
  refine (q_cut_eq _ _ [0] 200 _ _ _ _).trans ?_
  rfl
set_option maxRecDepth 20000 in
theorem k_X10_needCup_0 (call : Nat → List Value → qH → qR) (l0 : Nat) (l1 : Int32) (h : qH) : q_run qm_X10_needCup call 0 [.ref l0, .int l1] [] h =
  q_gR h (.ref l0) 10 1 fun r1 =>
  q_gI h (.ref r1) 6 2 fun x2 =>
  q_rcv h (.ref l0) 10 (q_rV (call 158 [.ref l0, .int l1, .int x2] h) q_t0 fun h3 =>
  some (.inl none, h3)) := by
  refine (q_cut_eq _ _ [0] 200 _ _ _ _).trans ?_
  rfl
set_option maxRecDepth 20000 in
theorem k_X10_needThere_0 (call : Nat → List Value → qH → qR) (l0 : Nat) (l1 : Int32) (l2 : Int32) (h : qH) : q_run qm_X10_needThere call 0 [.ref l0, .int l1, .int l2] [] h =
  if q_cmp .lt l1 (0 : Int32) = true then
    q_run qm_X10_needThere call 9 [.ref l0, .int l1, .int l2] [] h
  else
    if q_cmp .lt l1 l2 = true then
      some (.inl none, h)
    else
      q_run qm_X10_needThere call 9 [.ref l0, .int l1, .int l2] [] h := by
  refine (q_cut_eq _ _ [0, 9] 200 _ _ _ _).trans ?_
  rfl
set_option maxRecDepth 20000 in
theorem k_X10_needThere_9 (call : Nat → List Value → qH → qR) (l0 : Nat) (l1 : Value) (l2 : Value) (h : qH) : q_run qm_X10_needThere call 9 [.ref l0, l1, l2] [] h =
  q_gI h (.ref l0) 10 16 fun x1 =>
  q_pV h (.ref l0) 10 16 (.int (x1 + (1 : Int32))) fun h2 =>
  some (.inr (0, List.length h2), h2 ++ [.inr (12, [])]) := by
  refine (q_cut_eq _ _ [0, 9] 200 _ _ _ _).trans ?_
  rfl
set_option maxRecDepth 20000 in
theorem k_X10_needPress_0 (call : Nat → List Value → qH → qR) (l0 : Nat) (l1 : Int32) (h : qH) : q_run qm_X10_needPress call 0 [.ref l0, .int l1] [] h =
  q_rcv h (.ref l0) 10 (q_rV (call 161 [.ref l0, .int l1, .int (1 : Int32), .int (9 : Int32)] h) q_t0 fun h1 =>
  some (.inl none, h1)) := by
  refine (q_cut_eq _ _ [0] 200 _ _ _ _).trans ?_
  rfl
set_option maxRecDepth 20000 in
theorem k_X10_needWhat_0 (call : Nat → List Value → qH → qR) (l0 : Nat) (l1 : Int32) (l2 : Int32) (h : qH) : q_run qm_X10_needWhat call 0 [.ref l0, .int l1, .int l2] [] h =
  q_rcv h (.ref l0) 10 (q_rV (call 161 [.ref l0, .int l1, .int (0 : Int32), .int l2] h) q_t0 fun h1 =>
  some (.inl none, h1)) := by
  refine (q_cut_eq _ _ [0] 200 _ _ _ _).trans ?_
  rfl
set_option maxRecDepth 20000 in
theorem k_X10_needWithin_0 (call : Nat → List Value → qH → qR) (l0 : Nat) (l1 : Int32) (l2 : Int32) (l3 : Int32) (h : qH) : q_run qm_X10_needWithin call 0 [.ref l0, .int l1, .int l2, .int l3] [] h =
  if q_cmp .lt l1 l2 = true then
    q_run qm_X10_needWithin call 15 [.ref l0, .int l1, .int l2, .int l3] [.ref l0] h
  else
    if q_cmp .gt l1 l3 = true then
      q_run qm_X10_needWithin call 15 [.ref l0, .int l1, .int l2, .int l3] [.ref l0] h
    else
      q_run qm_X10_needWithin call 16 [.ref l0, .int l1, .int l2, .int l3] [.int (1 : Int32), .ref l0] h := by
  refine (q_cut_eq _ _ [0, 15, 16] 200 _ _ _ _).trans ?_
  rfl
set_option maxRecDepth 20000 in
theorem k_X10_needWithin_15 (call : Nat → List Value → qH → qR) (l0 : Value) (l1 : Value) (l2 : Value) (l3 : Value) (s0 : Nat) (h : qH) : q_run qm_X10_needWithin call 15 [l0, l1, l2, l3] [.ref s0] h =
  q_run qm_X10_needWithin call 16 [l0, l1, l2, l3] [.int (0 : Int32), .ref s0] h := by
  refine (q_cut_eq _ _ [0, 15, 16] 200 _ _ _ _).trans ?_
  rfl
set_option maxRecDepth 20000 in
theorem k_X10_needWithin_16 (call : Nat → List Value → qH → qR) (l0 : Value) (l1 : Value) (l2 : Value) (l3 : Value) (s0 : Nat) (s1 : Int32) (h : qH) : q_run qm_X10_needWithin call 16 [l0, l1, l2, l3] [.int s1, .ref s0] h =
  q_rcv h (.ref s0) 10 (q_rV (call 162 [.ref s0, .int s1] h) q_t0 fun h1 =>
  some (.inl none, h1)) := by
  refine (q_cut_eq _ _ [0, 15, 16] 200 _ _ _ _).trans ?_
  rfl
set_option maxRecDepth 20000 in
theorem k_X10_need_0 (call : Nat → List Value → qH → qR) (l0 : Nat) (l1 : Int32) (h : qH) : q_run qm_X10_need call 0 [.ref l0, .int l1] [] h =
  if q_cmp .ne l1 (0 : Int32) = true then
    some (.inl none, h)
  else
    q_gI h (.ref l0) 10 17 fun x1 =>
    q_pV h (.ref l0) 10 17 (.int (x1 + (1 : Int32))) fun h2 =>
    some (.inr (1, List.length h2), h2 ++ [.inr (13, [])]) := by
  refine (q_cut_eq _ _ [0] 200 _ _ _ _).trans ?_
  rfl
