set_option maxRecDepth 20000 in
theorem k_L_law__0 (call : Nat → List Value → qH → qR) (l0 : Nat) (h : qH) : q_run qm_L_law_ call 0 [.ref l0, q_junk, q_junk, q_junk, q_junk, q_junk, q_junk] [] h =
  q_rcv ((h ++ [.inr (10, [.null, .null, .null, .null, .null, .null, .null, .null, .null, .null, .null, .null, .null, .null, .int 0, .int 0, .int 0, .int 0])])) (.ref (List.length h)) 10 (q_rV (call 112 [.ref (List.length h)] ((h ++ [.inr (10, [.null, .null, .null, .null, .null, .null, .null, .null, .null, .null, .null, .null, .null, .null, .int 0, .int 0, .int 0, .int 0])]))) (fun _ _ _ => none) fun h1 =>
  q_rcv ((h1 ++ [.inr (11, [.int 0, .null, .int 0, .int 0, .int 0, .int 0, .int 0, .int 0, .int 0, .null, .null, .null, .null, .null, .null, .null, .int 0, .int 0, .int 0, .int 0, .int 0, .int 0, .int 0, .int 0, .int 0, .int 0, .null, .null, .null, .null, .null, .int 0, .int 0, .null, .null, .null, .int 0, .int 0, .int 0, .int 0, .int 0, .int 0, .null, .null, .null, .null, .null, .null, .int 0, .null, .null, .null, .int 0, .int 0, .null, .null, .int 0, .null, .int 0, .int 0, .null, .int 0])])) (.ref (List.length h1)) 11 (q_rV (call 166 [.ref (List.length h1)] ((h1 ++ [.inr (11, [.int 0, .null, .int 0, .int 0, .int 0, .int 0, .int 0, .int 0, .int 0, .null, .null, .null, .null, .null, .null, .null, .int 0, .int 0, .int 0, .int 0, .int 0, .int 0, .int 0, .int 0, .int 0, .int 0, .null, .null, .null, .null, .null, .int 0, .int 0, .null, .null, .null, .int 0, .int 0, .int 0, .int 0, .int 0, .int 0, .null, .null, .null, .null, .null, .null, .int 0, .null, .null, .null, .int 0, .int 0, .null, .null, .int 0, .null, .int 0, .int 0, .null, .int 0])]))) (fun _ _ _ => none) fun h2 =>
  q_nar h2 1 (1 : Int32) fun r3 h4 =>
  q_run qm_L_law_ call 23 [.ref l0, .ref (List.length h), .ref (List.length h1), .ref r3, .int (0 : Int32), q_junk, q_junk] [] h4)) := by
  refine (q_cut_eq _ _ [0, 23, 40, 326, 382, 438, 494, 576, 644, 712, 780, 848, 916, 1076, 1156, 1224, 1292, 1360, 1452, 1544, 1613, 1681, 1749, 1829, 1897, 1965, 2021, 2077, 2145, 2237, 2341, 2420] 200 _ _ _ _).trans ?_
  rfl
set_option maxRecDepth 20000 in
theorem k_L_law__23 (call : Nat → List Value → qH → qR) (l0 : Nat) (l1 : Nat) (l2 : Nat) (l3 : Nat) (l4 : Int32) (l5 : Value) (l6 : Value) (h : qH) : q_run qm_L_law_ call 23 [.ref l0, .ref l1, .ref l2, .ref l3, .int l4, l5, l6] [] h =
  q_len h (.ref l0) fun x1 =>
  if q_cmp .gt l4 (x1 - (10 : Int32)) = true then
    q_boo true (1 : Int32) fun z => some (.inl (some (.int z)), h)
  else
    q_ald h (.ref l0) 0 l4 fun x2 =>
    q_run qm_L_law_ call 40 [.ref l0, .ref l1, .ref l2, .ref l3, .int l4, l5, l6] [.int (x2 &&& (63 : Int32))] h := by
  refine (q_cut_eq _ _ [0, 23, 40, 326, 382, 438, 494, 576, 644, 712, 780, 848, 916, 1076, 1156, 1224, 1292, 1360, 1452, 1544, 1613, 1681, 1749, 1829, 1897, 1965, 2021, 2077, 2145, 2237, 2341, 2420] 200 _ _ _ _).trans ?_
  rfl
set_option maxRecDepth 20000 in
theorem k_L_law__40_c0 (call : Nat → List Value → qH → qR) (l0 : Nat) (l1 : Nat) (l2 : Nat) (l3 : Nat) (l4 : Int32) (l5 : Value) (l6 : Value) (h : qH) : q_run qm_L_law_ call 40 [.ref l0, .ref l1, .ref l2, .ref l3, .int l4, l5, l6] [.int (0 : Int32)] h =
  q_ald h (.ref l0) 0 (l4 + (1 : Int32)) fun x1 =>
  q_ald h (.ref l0) 0 (l4 + (2 : Int32)) fun x2 =>
  q_ald h (.ref l0) 0 (l4 + (3 : Int32)) fun x3 =>
  q_ald h (.ref l0) 0 (l4 + (4 : Int32)) fun x4 =>
  q_ald h (.ref l0) 0 (l4 + (5 : Int32)) fun x5 =>
  q_rcv h (.ref l1) 10 (q_rI (call 113 [.ref l1, .int x1, .int x2, .int x3, .int x4, .int x5] h) q_t0 fun x7 h6 =>
  q_ald h6 (.ref l0) 0 (l4 + (1 : Int32)) fun x8 =>
  q_ald h6 (.ref l0) 0 (l4 + (2 : Int32)) fun x9 =>
  q_ald h6 (.ref l0) 0 (l4 + (3 : Int32)) fun x10 =>
  q_ald h6 (.ref l0) 0 (l4 + (4 : Int32)) fun x11 =>
  q_ald h6 (.ref l0) 0 (l4 + (5 : Int32)) fun x12 =>
  q_rcv h6 (.ref l2) 11 (q_rI (call 167 [.ref l2, .int x8, .int x9, .int x10, .int x11, .int x12] h6) q_t0 fun x14 h13 =>
  if q_cmp .eq x7 x14 = true then
    q_run qm_L_law_ call 2420 [.ref l0, .ref l1, .ref l2, .ref l3, .int l4, l5, l6] [] h13
  else
    q_boo true (0 : Int32) fun z => some (.inl (some (.int z)), h13))) := by
  refine (q_cut_eq _ _ [0, 23, 40, 326, 382, 438, 494, 576, 644, 712, 780, 848, 916, 1076, 1156, 1224, 1292, 1360, 1452, 1544, 1613, 1681, 1749, 1829, 1897, 1965, 2021, 2077, 2145, 2237, 2341, 2420] 200 _ _ _ _).trans ?_
  rfl
set_option maxRecDepth 20000 in
theorem k_L_law__40_c1 (call : Nat → List Value → qH → qR) (l0 : Nat) (l1 : Nat) (l2 : Nat) (l3 : Nat) (l4 : Int32) (l5 : Value) (l6 : Value) (h : qH) : q_run qm_L_law_ call 40 [.ref l0, .ref l1, .ref l2, .ref l3, .int l4, l5, l6] [.int (1 : Int32)] h =
  q_ald h (.ref l0) 0 (l4 + (1 : Int32)) fun x1 =>
  q_rI (call 281 [.ref l1, .int x1, .ref l3] h) q_t0 fun x3 h2 =>
  q_ald h2 (.ref l0) 0 (l4 + (1 : Int32)) fun x4 =>
  q_rcv h2 (.ref l2) 11 (q_rI (call 189 [.ref l2, .int x4] h2) q_t0 fun x6 h5 =>
  q_rcv h5 (.ref l2) 11 (q_rI (call 163 [.ref l2] h5) q_t0 fun x8 h7 =>
  if q_cmp .eq x8 x3 = true then
    if q_cmp .ne x3 (0 : Int32) = true then
      q_run qm_L_law_ call 326 [.ref l0, .ref l1, .ref l2, .ref l3, .int l4, .int x3, .int x6] [] h7
    else
      q_lld h7 (.ref l3) (0 : Int32) fun y9 =>
      if q_cmp .eq (lg_cmp y9 (Int32.toInt64 x6)) (0 : Int32) = true then
        q_run qm_L_law_ call 326 [.ref l0, .ref l1, .ref l2, .ref l3, .int l4, .int x3, .int x6] [] h7
      else
        q_boo true (0 : Int32) fun z => some (.inl (some (.int z)), h7)
  else
    q_boo true (0 : Int32) fun z => some (.inl (some (.int z)), h7))) := by
  refine (q_cut_eq _ _ [0, 23, 40, 326, 382, 438, 494, 576, 644, 712, 780, 848, 916, 1076, 1156, 1224, 1292, 1360, 1452, 1544, 1613, 1681, 1749, 1829, 1897, 1965, 2021, 2077, 2145, 2237, 2341, 2420] 200 _ _ _ _).trans ?_
  rfl
set_option maxRecDepth 20000 in
theorem k_L_law__40_c2 (call : Nat → List Value → qH → qR) (l0 : Nat) (l1 : Nat) (l2 : Nat) (l3 : Nat) (l4 : Int32) (l5 : Value) (l6 : Value) (h : qH) : q_run qm_L_law_ call 40 [.ref l0, .ref l1, .ref l2, .ref l3, .int l4, l5, l6] [.int (2 : Int32)] h =
  q_ald h (.ref l0) 0 (l4 + (1 : Int32)) fun x1 =>
  q_rI (call 282 [.ref l1, .int x1, .ref l3] h) q_t0 fun x3 h2 =>
  q_ald h2 (.ref l0) 0 (l4 + (1 : Int32)) fun x4 =>
  q_rcv h2 (.ref l2) 11 (q_rI (call 197 [.ref l2, .int x4] h2) q_t0 fun x6 h5 =>
  q_rcv h5 (.ref l2) 11 (q_rI (call 163 [.ref l2] h5) q_t0 fun x8 h7 =>
  if q_cmp .eq x8 x3 = true then
    if q_cmp .ne x3 (0 : Int32) = true then
      q_run qm_L_law_ call 382 [.ref l0, .ref l1, .ref l2, .ref l3, .int l4, .int x3, .int x6] [] h7
    else
      q_lld h7 (.ref l3) (0 : Int32) fun y9 =>
      if q_cmp .eq (lg_cmp y9 (Int32.toInt64 x6)) (0 : Int32) = true then
        q_run qm_L_law_ call 382 [.ref l0, .ref l1, .ref l2, .ref l3, .int l4, .int x3, .int x6] [] h7
      else
        q_boo true (0 : Int32) fun z => some (.inl (some (.int z)), h7)
  else
    q_boo true (0 : Int32) fun z => some (.inl (some (.int z)), h7))) := by
  refine (q_cut_eq _ _ [0, 23, 40, 326, 382, 438, 494, 576, 644, 712, 780, 848, 916, 1076, 1156, 1224, 1292, 1360, 1452, 1544, 1613, 1681, 1749, 1829, 1897, 1965, 2021, 2077, 2145, 2237, 2341, 2420] 200 _ _ _ _).trans ?_
  rfl
set_option maxRecDepth 20000 in
theorem k_L_law__40_c3 (call : Nat → List Value → qH → qR) (l0 : Nat) (l1 : Nat) (l2 : Nat) (l3 : Nat) (l4 : Int32) (l5 : Value) (l6 : Value) (h : qH) : q_run qm_L_law_ call 40 [.ref l0, .ref l1, .ref l2, .ref l3, .int l4, l5, l6] [.int (3 : Int32)] h =
  q_ald h (.ref l0) 0 (l4 + (1 : Int32)) fun x1 =>
  q_rI (call 283 [.ref l1, .int x1, .ref l3] h) q_t0 fun x3 h2 =>
  q_ald h2 (.ref l0) 0 (l4 + (1 : Int32)) fun x4 =>
  q_rcv h2 (.ref l2) 11 (q_rI (call 203 [.ref l2, .int x4] h2) q_t0 fun x6 h5 =>
  q_rcv h5 (.ref l2) 11 (q_rI (call 163 [.ref l2] h5) q_t0 fun x8 h7 =>
  if q_cmp .eq x8 x3 = true then
    if q_cmp .ne x3 (0 : Int32) = true then
      q_run qm_L_law_ call 438 [.ref l0, .ref l1, .ref l2, .ref l3, .int l4, .int x3, .int x6] [] h7
    else
      q_lld h7 (.ref l3) (0 : Int32) fun y9 =>
      if q_cmp .eq (lg_cmp y9 (Int32.toInt64 x6)) (0 : Int32) = true then
        q_run qm_L_law_ call 438 [.ref l0, .ref l1, .ref l2, .ref l3, .int l4, .int x3, .int x6] [] h7
      else
        q_boo true (0 : Int32) fun z => some (.inl (some (.int z)), h7)
  else
    q_boo true (0 : Int32) fun z => some (.inl (some (.int z)), h7))) := by
  refine (q_cut_eq _ _ [0, 23, 40, 326, 382, 438, 494, 576, 644, 712, 780, 848, 916, 1076, 1156, 1224, 1292, 1360, 1452, 1544, 1613, 1681, 1749, 1829, 1897, 1965, 2021, 2077, 2145, 2237, 2341, 2420] 200 _ _ _ _).trans ?_
  rfl
set_option maxRecDepth 20000 in
theorem k_L_law__40_c4 (call : Nat → List Value → qH → qR) (l0 : Nat) (l1 : Nat) (l2 : Nat) (l3 : Nat) (l4 : Int32) (l5 : Value) (l6 : Value) (h : qH) : q_run qm_L_law_ call 40 [.ref l0, .ref l1, .ref l2, .ref l3, .int l4, l5, l6] [.int (4 : Int32)] h =
  q_ald h (.ref l0) 0 (l4 + (1 : Int32)) fun x1 =>
  q_rI (call 284 [.ref l1, .int x1, .ref l3] h) q_t0 fun x3 h2 =>
  q_ald h2 (.ref l0) 0 (l4 + (1 : Int32)) fun x4 =>
  q_rcv h2 (.ref l2) 11 (q_rI (call 223 [.ref l2, .int x4] h2) q_t0 fun x6 h5 =>
  q_rcv h5 (.ref l2) 11 (q_rI (call 163 [.ref l2] h5) q_t0 fun x8 h7 =>
  if q_cmp .eq x8 x3 = true then
    if q_cmp .ne x3 (0 : Int32) = true then
      q_run qm_L_law_ call 494 [.ref l0, .ref l1, .ref l2, .ref l3, .int l4, .int x3, .int x6] [] h7
    else
      q_lld h7 (.ref l3) (0 : Int32) fun y9 =>
      if q_cmp .eq (lg_cmp y9 (Int32.toInt64 x6)) (0 : Int32) = true then
        q_run qm_L_law_ call 494 [.ref l0, .ref l1, .ref l2, .ref l3, .int l4, .int x3, .int x6] [] h7
      else
        q_boo true (0 : Int32) fun z => some (.inl (some (.int z)), h7)
  else
    q_boo true (0 : Int32) fun z => some (.inl (some (.int z)), h7))) := by
  refine (q_cut_eq _ _ [0, 23, 40, 326, 382, 438, 494, 576, 644, 712, 780, 848, 916, 1076, 1156, 1224, 1292, 1360, 1452, 1544, 1613, 1681, 1749, 1829, 1897, 1965, 2021, 2077, 2145, 2237, 2341, 2420] 200 _ _ _ _).trans ?_
  rfl
set_option maxRecDepth 20000 in
theorem k_L_law__40_c5 (call : Nat → List Value → qH → qR) (l0 : Nat) (l1 : Nat) (l2 : Nat) (l3 : Nat) (l4 : Int32) (l5 : Value) (l6 : Value) (h : qH) : q_run qm_L_law_ call 40 [.ref l0, .ref l1, .ref l2, .ref l3, .int l4, l5, l6] [.int (5 : Int32)] h =
  q_rcv h (.ref l1) 10 (q_rI (call 118 [.ref l1] h) q_t0 fun x2 h1 =>
  q_rcv h1 (.ref l2) 11 (q_rI (call 181 [.ref l2] h1) q_t0 fun x4 h3 =>
  if q_cmp .eq x2 x4 = true then
    q_run qm_L_law_ call 2420 [.ref l0, .ref l1, .ref l2, .ref l3, .int l4, l5, l6] [] h3
  else
    q_boo true (0 : Int32) fun z => some (.inl (some (.int z)), h3))) := by
  refine (q_cut_eq _ _ [0, 23, 40, 326, 382, 438, 494, 576, 644, 712, 780, 848, 916, 1076, 1156, 1224, 1292, 1360, 1452, 1544, 1613, 1681, 1749, 1829, 1897, 1965, 2021, 2077, 2145, 2237, 2341, 2420] 200 _ _ _ _).trans ?_
  rfl
set_option maxRecDepth 20000 in
theorem k_L_law__40_c6 (call : Nat → List Value → qH → qR) (l0 : Nat) (l1 : Nat) (l2 : Nat) (l3 : Nat) (l4 : Int32) (l5 : Value) (l6 : Value) (h : qH) : q_run qm_L_law_ call 40 [.ref l0, .ref l1, .ref l2, .ref l3, .int l4, l5, l6] [.int (6 : Int32)] h =
  q_rcv h (.ref l1) 10 (q_rI (call 144 [.ref l1] h) q_t0 fun x2 h1 =>
  q_rcv h1 (.ref l2) 11 (q_rI (call 225 [.ref l2] h1) q_t0 fun x4 h3 =>
  if q_cmp .eq x2 x4 = true then
    q_run qm_L_law_ call 2420 [.ref l0, .ref l1, .ref l2, .ref l3, .int l4, l5, l6] [] h3
  else
    q_boo true (0 : Int32) fun z => some (.inl (some (.int z)), h3))) := by
  refine (q_cut_eq _ _ [0, 23, 40, 326, 382, 438, 494, 576, 644, 712, 780, 848, 916, 1076, 1156, 1224, 1292, 1360, 1452, 1544, 1613, 1681, 1749, 1829, 1897, 1965, 2021, 2077, 2145, 2237, 2341, 2420] 200 _ _ _ _).trans ?_
  rfl
set_option maxRecDepth 20000 in
theorem k_L_law__40_c7 (call : Nat → List Value → qH → qR) (l0 : Nat) (l1 : Nat) (l2 : Nat) (l3 : Nat) (l4 : Int32) (l5 : Value) (l6 : Value) (h : qH) : q_run qm_L_law_ call 40 [.ref l0, .ref l1, .ref l2, .ref l3, .int l4, l5, l6] [.int (7 : Int32)] h =
  q_ald h (.ref l0) 0 (l4 + (1 : Int32)) fun x1 =>
  q_rI (call 285 [.ref l1, .int x1, .ref l3] h) q_t0 fun x3 h2 =>
  q_ald h2 (.ref l0) 0 (l4 + (1 : Int32)) fun x4 =>
  q_rcv h2 (.ref l2) 11 (q_rI (call 228 [.ref l2, .int x4] h2) q_t0 fun x6 h5 =>
  q_rcv h5 (.ref l2) 11 (q_rI (call 163 [.ref l2] h5) q_t0 fun x8 h7 =>
  if q_cmp .eq x8 x3 = true then
    if q_cmp .ne x3 (0 : Int32) = true then
      q_run qm_L_law_ call 576 [.ref l0, .ref l1, .ref l2, .ref l3, .int l4, .int x3, .int x6] [] h7
    else
      q_lld h7 (.ref l3) (0 : Int32) fun y9 =>
      if q_cmp .eq (lg_cmp y9 (Int32.toInt64 x6)) (0 : Int32) = true then
        q_run qm_L_law_ call 576 [.ref l0, .ref l1, .ref l2, .ref l3, .int l4, .int x3, .int x6] [] h7
      else
        q_boo true (0 : Int32) fun z => some (.inl (some (.int z)), h7)
  else
    q_boo true (0 : Int32) fun z => some (.inl (some (.int z)), h7))) := by
  refine (q_cut_eq _ _ [0, 23, 40, 326, 382, 438, 494, 576, 644, 712, 780, 848, 916, 1076, 1156, 1224, 1292, 1360, 1452, 1544, 1613, 1681, 1749, 1829, 1897, 1965, 2021, 2077, 2145, 2237, 2341, 2420] 200 _ _ _ _).trans ?_
  rfl
set_option maxRecDepth 20000 in
theorem k_L_law__40_c8 (call : Nat → List Value → qH → qR) (l0 : Nat) (l1 : Nat) (l2 : Nat) (l3 : Nat) (l4 : Int32) (l5 : Value) (l6 : Value) (h : qH) : q_run qm_L_law_ call 40 [.ref l0, .ref l1, .ref l2, .ref l3, .int l4, l5, l6] [.int (8 : Int32)] h =
  q_ald h (.ref l0) 0 (l4 + (1 : Int32)) fun x1 =>
  q_ald h (.ref l0) 0 (l4 + (2 : Int32)) fun x2 =>
  q_rI (call 286 [.ref l1, .int x1, .int x2, .ref l3] h) q_t0 fun x4 h3 =>
  q_ald h3 (.ref l0) 0 (l4 + (1 : Int32)) fun x5 =>
  q_ald h3 (.ref l0) 0 (l4 + (2 : Int32)) fun x6 =>
  q_rcv h3 (.ref l2) 11 (q_rI (call 231 [.ref l2, .int x5, .int x6] h3) q_t0 fun x8 h7 =>
  q_rcv h7 (.ref l2) 11 (q_rI (call 163 [.ref l2] h7) q_t0 fun x10 h9 =>
  if q_cmp .eq x10 x4 = true then
    if q_cmp .ne x4 (0 : Int32) = true then
      q_run qm_L_law_ call 644 [.ref l0, .ref l1, .ref l2, .ref l3, .int l4, .int x4, .int x8] [] h9
    else
      q_lld h9 (.ref l3) (0 : Int32) fun y11 =>
      if q_cmp .eq (lg_cmp y11 (Int32.toInt64 x8)) (0 : Int32) = true then
        q_run qm_L_law_ call 644 [.ref l0, .ref l1, .ref l2, .ref l3, .int l4, .int x4, .int x8] [] h9
      else
        q_boo true (0 : Int32) fun z => some (.inl (some (.int z)), h9)
  else
    q_boo true (0 : Int32) fun z => some (.inl (some (.int z)), h9))) := by
  refine (q_cut_eq _ _ [0, 23, 40, 326, 382, 438, 494, 576, 644, 712, 780, 848, 916, 1076, 1156, 1224, 1292, 1360, 1452, 1544, 1613, 1681, 1749, 1829, 1897, 1965, 2021, 2077, 2145, 2237, 2341, 2420] 200 _ _ _ _).trans ?_
  rfl
set_option maxRecDepth 20000 in
theorem k_L_law__40_c9 (call : Nat → List Value → qH → qR) (l0 : Nat) (l1 : Nat) (l2 : Nat) (l3 : Nat) (l4 : Int32) (l5 : Value) (l6 : Value) (h : qH) : q_run qm_L_law_ call 40 [.ref l0, .ref l1, .ref l2, .ref l3, .int l4, l5, l6] [.int (9 : Int32)] h =
  q_ald h (.ref l0) 0 (l4 + (1 : Int32)) fun x1 =>
  q_ald h (.ref l0) 0 (l4 + (2 : Int32)) fun x2 =>
  q_rI (call 287 [.ref l1, .int x1, .int x2, .ref l3] h) q_t0 fun x4 h3 =>
  q_ald h3 (.ref l0) 0 (l4 + (1 : Int32)) fun x5 =>
  q_ald h3 (.ref l0) 0 (l4 + (2 : Int32)) fun x6 =>
  q_rcv h3 (.ref l2) 11 (q_rI (call 232 [.ref l2, .int x5, .int x6] h3) q_t0 fun x8 h7 =>
  q_rcv h7 (.ref l2) 11 (q_rI (call 163 [.ref l2] h7) q_t0 fun x10 h9 =>
  if q_cmp .eq x10 x4 = true then
    if q_cmp .ne x4 (0 : Int32) = true then
      q_run qm_L_law_ call 712 [.ref l0, .ref l1, .ref l2, .ref l3, .int l4, .int x4, .int x8] [] h9
    else
      q_lld h9 (.ref l3) (0 : Int32) fun y11 =>
      if q_cmp .eq (lg_cmp y11 (Int32.toInt64 x8)) (0 : Int32) = true then
        q_run qm_L_law_ call 712 [.ref l0, .ref l1, .ref l2, .ref l3, .int l4, .int x4, .int x8] [] h9
      else
        q_boo true (0 : Int32) fun z => some (.inl (some (.int z)), h9)
  else
    q_boo true (0 : Int32) fun z => some (.inl (some (.int z)), h9))) := by
  refine (q_cut_eq _ _ [0, 23, 40, 326, 382, 438, 494, 576, 644, 712, 780, 848, 916, 1076, 1156, 1224, 1292, 1360, 1452, 1544, 1613, 1681, 1749, 1829, 1897, 1965, 2021, 2077, 2145, 2237, 2341, 2420] 200 _ _ _ _).trans ?_
  rfl
set_option maxRecDepth 20000 in
theorem k_L_law__40_c10 (call : Nat → List Value → qH → qR) (l0 : Nat) (l1 : Nat) (l2 : Nat) (l3 : Nat) (l4 : Int32) (l5 : Value) (l6 : Value) (h : qH) : q_run qm_L_law_ call 40 [.ref l0, .ref l1, .ref l2, .ref l3, .int l4, l5, l6] [.int (10 : Int32)] h =
  q_ald h (.ref l0) 0 (l4 + (1 : Int32)) fun x1 =>
  q_ald h (.ref l0) 0 (l4 + (2 : Int32)) fun x2 =>
  q_rI (call 288 [.ref l1, .int x1, .int x2, .ref l3] h) q_t0 fun x4 h3 =>
  q_ald h3 (.ref l0) 0 (l4 + (1 : Int32)) fun x5 =>
  q_ald h3 (.ref l0) 0 (l4 + (2 : Int32)) fun x6 =>
  q_rcv h3 (.ref l2) 11 (q_rI (call 233 [.ref l2, .int x5, .int x6] h3) q_t0 fun x8 h7 =>
  q_rcv h7 (.ref l2) 11 (q_rI (call 163 [.ref l2] h7) q_t0 fun x10 h9 =>
  if q_cmp .eq x10 x4 = true then
    if q_cmp .ne x4 (0 : Int32) = true then
      q_run qm_L_law_ call 780 [.ref l0, .ref l1, .ref l2, .ref l3, .int l4, .int x4, .int x8] [] h9
    else
      q_lld h9 (.ref l3) (0 : Int32) fun y11 =>
      if q_cmp .eq (lg_cmp y11 (Int32.toInt64 x8)) (0 : Int32) = true then
        q_run qm_L_law_ call 780 [.ref l0, .ref l1, .ref l2, .ref l3, .int l4, .int x4, .int x8] [] h9
      else
        q_boo true (0 : Int32) fun z => some (.inl (some (.int z)), h9)
  else
    q_boo true (0 : Int32) fun z => some (.inl (some (.int z)), h9))) := by
  refine (q_cut_eq _ _ [0, 23, 40, 326, 382, 438, 494, 576, 644, 712, 780, 848, 916, 1076, 1156, 1224, 1292, 1360, 1452, 1544, 1613, 1681, 1749, 1829, 1897, 1965, 2021, 2077, 2145, 2237, 2341, 2420] 200 _ _ _ _).trans ?_
  rfl
set_option maxRecDepth 20000 in
theorem k_L_law__40_c11 (call : Nat → List Value → qH → qR) (l0 : Nat) (l1 : Nat) (l2 : Nat) (l3 : Nat) (l4 : Int32) (l5 : Value) (l6 : Value) (h : qH) : q_run qm_L_law_ call 40 [.ref l0, .ref l1, .ref l2, .ref l3, .int l4, l5, l6] [.int (11 : Int32)] h =
  q_ald h (.ref l0) 0 (l4 + (1 : Int32)) fun x1 =>
  q_ald h (.ref l0) 0 (l4 + (2 : Int32)) fun x2 =>
  q_rI (call 289 [.ref l1, .int x1, .int x2, .ref l3] h) q_t0 fun x4 h3 =>
  q_ald h3 (.ref l0) 0 (l4 + (1 : Int32)) fun x5 =>
  q_ald h3 (.ref l0) 0 (l4 + (2 : Int32)) fun x6 =>
  q_rcv h3 (.ref l2) 11 (q_rI (call 234 [.ref l2, .int x5, .int x6] h3) q_t0 fun x8 h7 =>
  q_rcv h7 (.ref l2) 11 (q_rI (call 163 [.ref l2] h7) q_t0 fun x10 h9 =>
  if q_cmp .eq x10 x4 = true then
    if q_cmp .ne x4 (0 : Int32) = true then
      q_run qm_L_law_ call 848 [.ref l0, .ref l1, .ref l2, .ref l3, .int l4, .int x4, .int x8] [] h9
    else
      q_lld h9 (.ref l3) (0 : Int32) fun y11 =>
      if q_cmp .eq (lg_cmp y11 (Int32.toInt64 x8)) (0 : Int32) = true then
        q_run qm_L_law_ call 848 [.ref l0, .ref l1, .ref l2, .ref l3, .int l4, .int x4, .int x8] [] h9
      else
        q_boo true (0 : Int32) fun z => some (.inl (some (.int z)), h9)
  else
    q_boo true (0 : Int32) fun z => some (.inl (some (.int z)), h9))) := by
  refine (q_cut_eq _ _ [0, 23, 40, 326, 382, 438, 494, 576, 644, 712, 780, 848, 916, 1076, 1156, 1224, 1292, 1360, 1452, 1544, 1613, 1681, 1749, 1829, 1897, 1965, 2021, 2077, 2145, 2237, 2341, 2420] 200 _ _ _ _).trans ?_
  rfl
set_option maxRecDepth 20000 in
theorem k_L_law__40_c12 (call : Nat → List Value → qH → qR) (l0 : Nat) (l1 : Nat) (l2 : Nat) (l3 : Nat) (l4 : Int32) (l5 : Value) (l6 : Value) (h : qH) : q_run qm_L_law_ call 40 [.ref l0, .ref l1, .ref l2, .ref l3, .int l4, l5, l6] [.int (12 : Int32)] h =
  q_ald h (.ref l0) 0 (l4 + (1 : Int32)) fun x1 =>
  q_ald h (.ref l0) 0 (l4 + (2 : Int32)) fun x2 =>
  q_rI (call 290 [.ref l1, .int x1, .int x2, .ref l3] h) q_t0 fun x4 h3 =>
  q_ald h3 (.ref l0) 0 (l4 + (1 : Int32)) fun x5 =>
  q_ald h3 (.ref l0) 0 (l4 + (2 : Int32)) fun x6 =>
  q_rcv h3 (.ref l2) 11 (q_rI (call 236 [.ref l2, .int x5, .int x6] h3) q_t0 fun x8 h7 =>
  q_rcv h7 (.ref l2) 11 (q_rI (call 163 [.ref l2] h7) q_t0 fun x10 h9 =>
  if q_cmp .eq x10 x4 = true then
    if q_cmp .ne x4 (0 : Int32) = true then
      q_run qm_L_law_ call 916 [.ref l0, .ref l1, .ref l2, .ref l3, .int l4, .int x4, .int x8] [] h9
    else
      q_lld h9 (.ref l3) (0 : Int32) fun y11 =>
      if q_cmp .eq (lg_cmp y11 (Int32.toInt64 x8)) (0 : Int32) = true then
        q_run qm_L_law_ call 916 [.ref l0, .ref l1, .ref l2, .ref l3, .int l4, .int x4, .int x8] [] h9
      else
        q_boo true (0 : Int32) fun z => some (.inl (some (.int z)), h9)
  else
    q_boo true (0 : Int32) fun z => some (.inl (some (.int z)), h9))) := by
  refine (q_cut_eq _ _ [0, 23, 40, 326, 382, 438, 494, 576, 644, 712, 780, 848, 916, 1076, 1156, 1224, 1292, 1360, 1452, 1544, 1613, 1681, 1749, 1829, 1897, 1965, 2021, 2077, 2145, 2237, 2341, 2420] 200 _ _ _ _).trans ?_
  rfl
set_option maxRecDepth 20000 in
theorem k_L_law__40_c13 (call : Nat → List Value → qH → qR) (l0 : Nat) (l1 : Nat) (l2 : Nat) (l3 : Nat) (l4 : Int32) (l5 : Value) (l6 : Value) (h : qH) : q_run qm_L_law_ call 40 [.ref l0, .ref l1, .ref l2, .ref l3, .int l4, l5, l6] [.int (13 : Int32)] h =
  q_ald h (.ref l0) 0 (l4 + (1 : Int32)) fun x1 =>
  q_ald h (.ref l0) 0 (l4 + (2 : Int32)) fun x2 =>
  q_ald h (.ref l0) 0 (l4 + (3 : Int32)) fun x3 =>
  q_ald h (.ref l0) 0 (l4 + (4 : Int32)) fun x4 =>
  q_ald h (.ref l0) 0 (l4 + (5 : Int32)) fun x5 =>
  q_ald h (.ref l0) 0 (l4 + (6 : Int32)) fun x6 =>
  q_ald h (.ref l0) 0 (l4 + (7 : Int32)) fun x7 =>
  q_ald h (.ref l0) 0 (l4 + (8 : Int32)) fun x8 =>
  q_ald h (.ref l0) 0 (l4 + (9 : Int32)) fun x9 =>
  q_rI (call 291 [.ref l1, .int x1, .int x2, .int x3, .int x4, .int x5, .int x6, .int x7, .int x8, .int x9, .ref l3] h) q_t0 fun x11 h10 =>
  q_ald h10 (.ref l0) 0 (l4 + (1 : Int32)) fun x12 =>
  q_ald h10 (.ref l0) 0 (l4 + (2 : Int32)) fun x13 =>
  q_ald h10 (.ref l0) 0 (l4 + (3 : Int32)) fun x14 =>
  q_ald h10 (.ref l0) 0 (l4 + (4 : Int32)) fun x15 =>
  q_ald h10 (.ref l0) 0 (l4 + (5 : Int32)) fun x16 =>
  q_ald h10 (.ref l0) 0 (l4 + (6 : Int32)) fun x17 =>
  q_ald h10 (.ref l0) 0 (l4 + (7 : Int32)) fun x18 =>
  q_ald h10 (.ref l0) 0 (l4 + (8 : Int32)) fun x19 =>
  q_ald h10 (.ref l0) 0 (l4 + (9 : Int32)) fun x20 =>
  q_rcv h10 (.ref l2) 11 (q_rI (call 237 [.ref l2, .int x12, .int x13, .int x14, .int x15, .int x16, .int x17, .int x18, .int x19, .int x20] h10) q_t0 fun x22 h21 =>
  q_rcv h21 (.ref l2) 11 (q_rI (call 163 [.ref l2] h21) q_t0 fun x24 h23 =>
  if q_cmp .eq x24 x11 = true then
    if q_cmp .ne x11 (0 : Int32) = true then
      q_run qm_L_law_ call 1076 [.ref l0, .ref l1, .ref l2, .ref l3, .int l4, .int x11, .int x22] [] h23
    else
      q_lld h23 (.ref l3) (0 : Int32) fun y25 =>
      if q_cmp .eq (lg_cmp y25 (Int32.toInt64 x22)) (0 : Int32) = true then
        q_run qm_L_law_ call 1076 [.ref l0, .ref l1, .ref l2, .ref l3, .int l4, .int x11, .int x22] [] h23
      else
        q_boo true (0 : Int32) fun z => some (.inl (some (.int z)), h23)
  else
    q_boo true (0 : Int32) fun z => some (.inl (some (.int z)), h23))) := by
  refine (q_cut_eq _ _ [0, 23, 40, 326, 382, 438, 494, 576, 644, 712, 780, 848, 916, 1076, 1156, 1224, 1292, 1360, 1452, 1544, 1613, 1681, 1749, 1829, 1897, 1965, 2021, 2077, 2145, 2237, 2341, 2420] 200 _ _ _ _).trans ?_
  rfl
set_option maxRecDepth 20000 in
theorem k_L_law__40_c14 (call : Nat → List Value → qH → qR) (l0 : Nat) (l1 : Nat) (l2 : Nat) (l3 : Nat) (l4 : Int32) (l5 : Value) (l6 : Value) (h : qH) : q_run qm_L_law_ call 40 [.ref l0, .ref l1, .ref l2, .ref l3, .int l4, l5, l6] [.int (14 : Int32)] h =
  q_ald h (.ref l0) 0 (l4 + (1 : Int32)) fun x1 =>
  q_ald h (.ref l0) 0 (l4 + (2 : Int32)) fun x2 =>
  q_ald h (.ref l0) 0 (l4 + (3 : Int32)) fun x3 =>
  q_rI (call 292 [.ref l1, .int x1, .int x2, .int x3, .ref l3] h) q_t0 fun x5 h4 =>
  q_ald h4 (.ref l0) 0 (l4 + (1 : Int32)) fun x6 =>
  q_ald h4 (.ref l0) 0 (l4 + (2 : Int32)) fun x7 =>
  q_ald h4 (.ref l0) 0 (l4 + (3 : Int32)) fun x8 =>
  q_rcv h4 (.ref l2) 11 (q_rI (call 240 [.ref l2, .int x6, .int x7, .int x8] h4) q_t0 fun x10 h9 =>
  q_rcv h9 (.ref l2) 11 (q_rI (call 163 [.ref l2] h9) q_t0 fun x12 h11 =>
  if q_cmp .eq x12 x5 = true then
    if q_cmp .ne x5 (0 : Int32) = true then
      q_run qm_L_law_ call 1156 [.ref l0, .ref l1, .ref l2, .ref l3, .int l4, .int x5, .int x10] [] h11
    else
      q_lld h11 (.ref l3) (0 : Int32) fun y13 =>
      if q_cmp .eq (lg_cmp y13 (Int32.toInt64 x10)) (0 : Int32) = true then
        q_run qm_L_law_ call 1156 [.ref l0, .ref l1, .ref l2, .ref l3, .int l4, .int x5, .int x10] [] h11
      else
        q_boo true (0 : Int32) fun z => some (.inl (some (.int z)), h11)
  else
    q_boo true (0 : Int32) fun z => some (.inl (some (.int z)), h11))) := by
  refine (q_cut_eq _ _ [0, 23, 40, 326, 382, 438, 494, 576, 644, 712, 780, 848, 916, 1076, 1156, 1224, 1292, 1360, 1452, 1544, 1613, 1681, 1749, 1829, 1897, 1965, 2021, 2077, 2145, 2237, 2341, 2420] 200 _ _ _ _).trans ?_
  rfl
set_option maxRecDepth 20000 in
theorem k_L_law__40_c15 (call : Nat → List Value → qH → qR) (l0 : Nat) (l1 : Nat) (l2 : Nat) (l3 : Nat) (l4 : Int32) (l5 : Value) (l6 : Value) (h : qH) : q_run qm_L_law_ call 40 [.ref l0, .ref l1, .ref l2, .ref l3, .int l4, l5, l6] [.int (15 : Int32)] h =
  q_ald h (.ref l0) 0 (l4 + (1 : Int32)) fun x1 =>
  q_ald h (.ref l0) 0 (l4 + (2 : Int32)) fun x2 =>
  q_rI (call 293 [.ref l1, .int x1, .int x2, .ref l3] h) q_t0 fun x4 h3 =>
  q_ald h3 (.ref l0) 0 (l4 + (1 : Int32)) fun x5 =>
  q_ald h3 (.ref l0) 0 (l4 + (2 : Int32)) fun x6 =>
  q_rcv h3 (.ref l2) 11 (q_rI (call 241 [.ref l2, .int x5, .int x6] h3) q_t0 fun x8 h7 =>
  q_rcv h7 (.ref l2) 11 (q_rI (call 163 [.ref l2] h7) q_t0 fun x10 h9 =>
  if q_cmp .eq x10 x4 = true then
    if q_cmp .ne x4 (0 : Int32) = true then
      q_run qm_L_law_ call 1224 [.ref l0, .ref l1, .ref l2, .ref l3, .int l4, .int x4, .int x8] [] h9
    else
      q_lld h9 (.ref l3) (0 : Int32) fun y11 =>
      if q_cmp .eq (lg_cmp y11 (Int32.toInt64 x8)) (0 : Int32) = true then
        q_run qm_L_law_ call 1224 [.ref l0, .ref l1, .ref l2, .ref l3, .int l4, .int x4, .int x8] [] h9
      else
        q_boo true (0 : Int32) fun z => some (.inl (some (.int z)), h9)
  else
    q_boo true (0 : Int32) fun z => some (.inl (some (.int z)), h9))) := by
  refine (q_cut_eq _ _ [0, 23, 40, 326, 382, 438, 494, 576, 644, 712, 780, 848, 916, 1076, 1156, 1224, 1292, 1360, 1452, 1544, 1613, 1681, 1749, 1829, 1897, 1965, 2021, 2077, 2145, 2237, 2341, 2420] 200 _ _ _ _).trans ?_
  rfl
set_option maxRecDepth 20000 in
theorem k_L_law__40_c16 (call : Nat → List Value → qH → qR) (l0 : Nat) (l1 : Nat) (l2 : Nat) (l3 : Nat) (l4 : Int32) (l5 : Value) (l6 : Value) (h : qH) : q_run qm_L_law_ call 40 [.ref l0, .ref l1, .ref l2, .ref l3, .int l4, l5, l6] [.int (16 : Int32)] h =
  q_ald h (.ref l0) 0 (l4 + (1 : Int32)) fun x1 =>
  q_ald h (.ref l0) 0 (l4 + (2 : Int32)) fun x2 =>
  q_rI (call 294 [.ref l1, .int x1, .int x2, .ref l3] h) q_t0 fun x4 h3 =>
  q_ald h3 (.ref l0) 0 (l4 + (1 : Int32)) fun x5 =>
  q_ald h3 (.ref l0) 0 (l4 + (2 : Int32)) fun x6 =>
  q_rcv h3 (.ref l2) 11 (q_rI (call 242 [.ref l2, .int x5, .int x6] h3) q_t0 fun x8 h7 =>
  q_rcv h7 (.ref l2) 11 (q_rI (call 163 [.ref l2] h7) q_t0 fun x10 h9 =>
  if q_cmp .eq x10 x4 = true then
    if q_cmp .ne x4 (0 : Int32) = true then
      q_run qm_L_law_ call 1292 [.ref l0, .ref l1, .ref l2, .ref l3, .int l4, .int x4, .int x8] [] h9
    else
      q_lld h9 (.ref l3) (0 : Int32) fun y11 =>
      if q_cmp .eq (lg_cmp y11 (Int32.toInt64 x8)) (0 : Int32) = true then
        q_run qm_L_law_ call 1292 [.ref l0, .ref l1, .ref l2, .ref l3, .int l4, .int x4, .int x8] [] h9
      else
        q_boo true (0 : Int32) fun z => some (.inl (some (.int z)), h9)
  else
    q_boo true (0 : Int32) fun z => some (.inl (some (.int z)), h9))) := by
  refine (q_cut_eq _ _ [0, 23, 40, 326, 382, 438, 494, 576, 644, 712, 780, 848, 916, 1076, 1156, 1224, 1292, 1360, 1452, 1544, 1613, 1681, 1749, 1829, 1897, 1965, 2021, 2077, 2145, 2237, 2341, 2420] 200 _ _ _ _).trans ?_
  rfl
set_option maxRecDepth 20000 in
theorem k_L_law__40_c17 (call : Nat → List Value → qH → qR) (l0 : Nat) (l1 : Nat) (l2 : Nat) (l3 : Nat) (l4 : Int32) (l5 : Value) (l6 : Value) (h : qH) : q_run qm_L_law_ call 40 [.ref l0, .ref l1, .ref l2, .ref l3, .int l4, l5, l6] [.int (17 : Int32)] h =
  q_ald h (.ref l0) 0 (l4 + (1 : Int32)) fun x1 =>
  q_ald h (.ref l0) 0 (l4 + (2 : Int32)) fun x2 =>
  q_rI (call 295 [.ref l1, .int x1, .int x2, .ref l3] h) q_t0 fun x4 h3 =>
  q_ald h3 (.ref l0) 0 (l4 + (1 : Int32)) fun x5 =>
  q_ald h3 (.ref l0) 0 (l4 + (2 : Int32)) fun x6 =>
  q_rcv h3 (.ref l2) 11 (q_rI (call 244 [.ref l2, .int x5, .int x6] h3) q_t0 fun x8 h7 =>
  q_rcv h7 (.ref l2) 11 (q_rI (call 163 [.ref l2] h7) q_t0 fun x10 h9 =>
  if q_cmp .eq x10 x4 = true then
    if q_cmp .ne x4 (0 : Int32) = true then
      q_run qm_L_law_ call 1360 [.ref l0, .ref l1, .ref l2, .ref l3, .int l4, .int x4, .int x8] [] h9
    else
      q_lld h9 (.ref l3) (0 : Int32) fun y11 =>
      if q_cmp .eq (lg_cmp y11 (Int32.toInt64 x8)) (0 : Int32) = true then
        q_run qm_L_law_ call 1360 [.ref l0, .ref l1, .ref l2, .ref l3, .int l4, .int x4, .int x8] [] h9
      else
        q_boo true (0 : Int32) fun z => some (.inl (some (.int z)), h9)
  else
    q_boo true (0 : Int32) fun z => some (.inl (some (.int z)), h9))) := by
  refine (q_cut_eq _ _ [0, 23, 40, 326, 382, 438, 494, 576, 644, 712, 780, 848, 916, 1076, 1156, 1224, 1292, 1360, 1452, 1544, 1613, 1681, 1749, 1829, 1897, 1965, 2021, 2077, 2145, 2237, 2341, 2420] 200 _ _ _ _).trans ?_
  rfl
set_option maxRecDepth 20000 in
theorem k_L_law__40_c18 (call : Nat → List Value → qH → qR) (l0 : Nat) (l1 : Nat) (l2 : Nat) (l3 : Nat) (l4 : Int32) (l5 : Value) (l6 : Value) (h : qH) : q_run qm_L_law_ call 40 [.ref l0, .ref l1, .ref l2, .ref l3, .int l4, l5, l6] [.int (18 : Int32)] h =
  q_ald h (.ref l0) 0 (l4 + (1 : Int32)) fun x1 =>
  q_ald h (.ref l0) 0 (l4 + (2 : Int32)) fun x2 =>
  q_ald h (.ref l0) 0 (l4 + (3 : Int32)) fun x3 =>
  q_ald h (.ref l0) 0 (l4 + (4 : Int32)) fun x4 =>
  q_rI (call 296 [.ref l1, .int x1, .int x2, .int x3, .int x4, .ref l3] h) q_t0 fun x6 h5 =>
  q_ald h5 (.ref l0) 0 (l4 + (1 : Int32)) fun x7 =>
  q_ald h5 (.ref l0) 0 (l4 + (2 : Int32)) fun x8 =>
  q_ald h5 (.ref l0) 0 (l4 + (3 : Int32)) fun x9 =>
  q_ald h5 (.ref l0) 0 (l4 + (4 : Int32)) fun x10 =>
  q_rcv h5 (.ref l2) 11 (q_rI (call 249 [.ref l2, .int x7, .int x8, .int x9, .int x10] h5) q_t0 fun x12 h11 =>
  q_rcv h11 (.ref l2) 11 (q_rI (call 163 [.ref l2] h11) q_t0 fun x14 h13 =>
  if q_cmp .eq x14 x6 = true then
    if q_cmp .ne x6 (0 : Int32) = true then
      q_run qm_L_law_ call 1452 [.ref l0, .ref l1, .ref l2, .ref l3, .int l4, .int x6, .int x12] [] h13
    else
      q_lld h13 (.ref l3) (0 : Int32) fun y15 =>
      if q_cmp .eq (lg_cmp y15 (Int32.toInt64 x12)) (0 : Int32) = true then
        q_run qm_L_law_ call 1452 [.ref l0, .ref l1, .ref l2, .ref l3, .int l4, .int x6, .int x12] [] h13
      else
        q_boo true (0 : Int32) fun z => some (.inl (some (.int z)), h13)
  else
    q_boo true (0 : Int32) fun z => some (.inl (some (.int z)), h13))) := by
  refine (q_cut_eq _ _ [0, 23, 40, 326, 382, 438, 494, 576, 644, 712, 780, 848, 916, 1076, 1156, 1224, 1292, 1360, 1452, 1544, 1613, 1681, 1749, 1829, 1897, 1965, 2021, 2077, 2145, 2237, 2341, 2420] 200 _ _ _ _).trans ?_
  rfl
set_option maxRecDepth 20000 in
theorem k_L_law__40_c19 (call : Nat → List Value → qH → qR) (l0 : Nat) (l1 : Nat) (l2 : Nat) (l3 : Nat) (l4 : Int32) (l5 : Value) (l6 : Value) (h : qH) : q_run qm_L_law_ call 40 [.ref l0, .ref l1, .ref l2, .ref l3, .int l4, l5, l6] [.int (19 : Int32)] h =
  q_ald h (.ref l0) 0 (l4 + (1 : Int32)) fun x1 =>
  q_ald h (.ref l0) 0 (l4 + (2 : Int32)) fun x2 =>
  q_ald h (.ref l0) 0 (l4 + (3 : Int32)) fun x3 =>
  q_ald h (.ref l0) 0 (l4 + (4 : Int32)) fun x4 =>
  q_rI (call 297 [.ref l1, .int x1, .int x2, .int x3, .int x4, .ref l3] h) q_t0 fun x6 h5 =>
  q_ald h5 (.ref l0) 0 (l4 + (1 : Int32)) fun x7 =>
  q_ald h5 (.ref l0) 0 (l4 + (2 : Int32)) fun x8 =>
  q_ald h5 (.ref l0) 0 (l4 + (3 : Int32)) fun x9 =>
  q_ald h5 (.ref l0) 0 (l4 + (4 : Int32)) fun x10 =>
  q_rcv h5 (.ref l2) 11 (q_rI (call 250 [.ref l2, .int x7, .int x8, .int x9, .int x10] h5) q_t0 fun x12 h11 =>
  q_rcv h11 (.ref l2) 11 (q_rI (call 163 [.ref l2] h11) q_t0 fun x14 h13 =>
  if q_cmp .eq x14 x6 = true then
    if q_cmp .ne x6 (0 : Int32) = true then
      q_run qm_L_law_ call 1544 [.ref l0, .ref l1, .ref l2, .ref l3, .int l4, .int x6, .int x12] [] h13
    else
      q_lld h13 (.ref l3) (0 : Int32) fun y15 =>
      if q_cmp .eq (lg_cmp y15 (Int32.toInt64 x12)) (0 : Int32) = true then
        q_run qm_L_law_ call 1544 [.ref l0, .ref l1, .ref l2, .ref l3, .int l4, .int x6, .int x12] [] h13
      else
        q_boo true (0 : Int32) fun z => some (.inl (some (.int z)), h13)
  else
    q_boo true (0 : Int32) fun z => some (.inl (some (.int z)), h13))) := by
  refine (q_cut_eq _ _ [0, 23, 40, 326, 382, 438, 494, 576, 644, 712, 780, 848, 916, 1076, 1156, 1224, 1292, 1360, 1452, 1544, 1613, 1681, 1749, 1829, 1897, 1965, 2021, 2077, 2145, 2237, 2341, 2420] 200 _ _ _ _).trans ?_
  rfl
set_option maxRecDepth 20000 in
theorem k_L_law__40_c20 (call : Nat → List Value → qH → qR) (l0 : Nat) (l1 : Nat) (l2 : Nat) (l3 : Nat) (l4 : Int32) (l5 : Value) (l6 : Value) (h : qH) : q_run qm_L_law_ call 40 [.ref l0, .ref l1, .ref l2, .ref l3, .int l4, l5, l6] [.int (20 : Int32)] h =
  q_rcv h (.ref l1) 10 (q_rI (call 133 [.ref l1] h) q_t0 fun x2 h1 =>
  q_rcv h1 (.ref l2) 11 (q_rI (call 253 [.ref l2] h1) q_t0 fun x4 h3 =>
  if q_cmp .eq x2 x4 = true then
    q_run qm_L_law_ call 2420 [.ref l0, .ref l1, .ref l2, .ref l3, .int l4, l5, l6] [] h3
  else
    q_boo true (0 : Int32) fun z => some (.inl (some (.int z)), h3))) := by
  refine (q_cut_eq _ _ [0, 23, 40, 326, 382, 438, 494, 576, 644, 712, 780, 848, 916, 1076, 1156, 1224, 1292, 1360, 1452, 1544, 1613, 1681, 1749, 1829, 1897, 1965, 2021, 2077, 2145, 2237, 2341, 2420] 200 _ _ _ _).trans ?_
  rfl
set_option maxRecDepth 20000 in
theorem k_L_law__40_c21 (call : Nat → List Value → qH → qR) (l0 : Nat) (l1 : Nat) (l2 : Nat) (l3 : Nat) (l4 : Int32) (l5 : Value) (l6 : Value) (h : qH) : q_run qm_L_law_ call 40 [.ref l0, .ref l1, .ref l2, .ref l3, .int l4, l5, l6] [.int (21 : Int32)] h =
  q_ald h (.ref l0) 0 (l4 + (1 : Int32)) fun x1 =>
  q_rI (call 298 [.ref l1, .int x1, .ref l3] h) q_t0 fun x3 h2 =>
  q_ald h2 (.ref l0) 0 (l4 + (1 : Int32)) fun x4 =>
  q_rcv h2 (.ref l2) 11 (q_rI (call 254 [.ref l2, .int x4] h2) q_t0 fun x6 h5 =>
  q_rcv h5 (.ref l2) 11 (q_rI (call 163 [.ref l2] h5) q_t0 fun x8 h7 =>
  if q_cmp .eq x8 x3 = true then
    if q_cmp .ne x3 (0 : Int32) = true then
      q_run qm_L_law_ call 1613 [.ref l0, .ref l1, .ref l2, .ref l3, .int l4, .int x3, .int x6] [] h7
    else
      q_lld h7 (.ref l3) (0 : Int32) fun y9 =>
      if q_cmp .eq (lg_cmp y9 (Int32.toInt64 x6)) (0 : Int32) = true then
        q_run qm_L_law_ call 1613 [.ref l0, .ref l1, .ref l2, .ref l3, .int l4, .int x3, .int x6] [] h7
      else
        q_boo true (0 : Int32) fun z => some (.inl (some (.int z)), h7)
  else
    q_boo true (0 : Int32) fun z => some (.inl (some (.int z)), h7))) := by
  refine (q_cut_eq _ _ [0, 23, 40, 326, 382, 438, 494, 576, 644, 712, 780, 848, 916, 1076, 1156, 1224, 1292, 1360, 1452, 1544, 1613, 1681, 1749, 1829, 1897, 1965, 2021, 2077, 2145, 2237, 2341, 2420] 200 _ _ _ _).trans ?_
  rfl
set_option maxRecDepth 20000 in
theorem k_L_law__40_c22 (call : Nat → List Value → qH → qR) (l0 : Nat) (l1 : Nat) (l2 : Nat) (l3 : Nat) (l4 : Int32) (l5 : Value) (l6 : Value) (h : qH) : q_run qm_L_law_ call 40 [.ref l0, .ref l1, .ref l2, .ref l3, .int l4, l5, l6] [.int (22 : Int32)] h =
  q_ald h (.ref l0) 0 (l4 + (1 : Int32)) fun x1 =>
  q_ald h (.ref l0) 0 (l4 + (2 : Int32)) fun x2 =>
  q_rI (call 299 [.ref l1, .int x1, .int x2, .ref l3] h) q_t0 fun x4 h3 =>
  q_ald h3 (.ref l0) 0 (l4 + (1 : Int32)) fun x5 =>
  q_ald h3 (.ref l0) 0 (l4 + (2 : Int32)) fun x6 =>
  q_rcv h3 (.ref l2) 11 (q_rI (call 257 [.ref l2, .int x5, .int x6] h3) q_t0 fun x8 h7 =>
  q_rcv h7 (.ref l2) 11 (q_rI (call 163 [.ref l2] h7) q_t0 fun x10 h9 =>
  if q_cmp .eq x10 x4 = true then
    if q_cmp .ne x4 (0 : Int32) = true then
      q_run qm_L_law_ call 1681 [.ref l0, .ref l1, .ref l2, .ref l3, .int l4, .int x4, .int x8] [] h9
    else
      q_lld h9 (.ref l3) (0 : Int32) fun y11 =>
      if q_cmp .eq (lg_cmp y11 (Int32.toInt64 x8)) (0 : Int32) = true then
        q_run qm_L_law_ call 1681 [.ref l0, .ref l1, .ref l2, .ref l3, .int l4, .int x4, .int x8] [] h9
      else
        q_boo true (0 : Int32) fun z => some (.inl (some (.int z)), h9)
  else
    q_boo true (0 : Int32) fun z => some (.inl (some (.int z)), h9))) := by
  refine (q_cut_eq _ _ [0, 23, 40, 326, 382, 438, 494, 576, 644, 712, 780, 848, 916, 1076, 1156, 1224, 1292, 1360, 1452, 1544, 1613, 1681, 1749, 1829, 1897, 1965, 2021, 2077, 2145, 2237, 2341, 2420] 200 _ _ _ _).trans ?_
  rfl
set_option maxRecDepth 20000 in
theorem k_L_law__40_c23 (call : Nat → List Value → qH → qR) (l0 : Nat) (l1 : Nat) (l2 : Nat) (l3 : Nat) (l4 : Int32) (l5 : Value) (l6 : Value) (h : qH) : q_run qm_L_law_ call 40 [.ref l0, .ref l1, .ref l2, .ref l3, .int l4, l5, l6] [.int (23 : Int32)] h =
  q_ald h (.ref l0) 0 (l4 + (1 : Int32)) fun x1 =>
  q_ald h (.ref l0) 0 (l4 + (2 : Int32)) fun x2 =>
  q_rI (call 300 [.ref l1, .int x1, .int x2, .ref l3] h) q_t0 fun x4 h3 =>
  q_ald h3 (.ref l0) 0 (l4 + (1 : Int32)) fun x5 =>
  q_ald h3 (.ref l0) 0 (l4 + (2 : Int32)) fun x6 =>
  q_rcv h3 (.ref l2) 11 (q_rI (call 259 [.ref l2, .int x5, .int x6] h3) q_t0 fun x8 h7 =>
  q_rcv h7 (.ref l2) 11 (q_rI (call 163 [.ref l2] h7) q_t0 fun x10 h9 =>
  if q_cmp .eq x10 x4 = true then
    if q_cmp .ne x4 (0 : Int32) = true then
      q_run qm_L_law_ call 1749 [.ref l0, .ref l1, .ref l2, .ref l3, .int l4, .int x4, .int x8] [] h9
    else
      q_lld h9 (.ref l3) (0 : Int32) fun y11 =>
      if q_cmp .eq (lg_cmp y11 (Int32.toInt64 x8)) (0 : Int32) = true then
        q_run qm_L_law_ call 1749 [.ref l0, .ref l1, .ref l2, .ref l3, .int l4, .int x4, .int x8] [] h9
      else
        q_boo true (0 : Int32) fun z => some (.inl (some (.int z)), h9)
  else
    q_boo true (0 : Int32) fun z => some (.inl (some (.int z)), h9))) := by
  refine (q_cut_eq _ _ [0, 23, 40, 326, 382, 438, 494, 576, 644, 712, 780, 848, 916, 1076, 1156, 1224, 1292, 1360, 1452, 1544, 1613, 1681, 1749, 1829, 1897, 1965, 2021, 2077, 2145, 2237, 2341, 2420] 200 _ _ _ _).trans ?_
  rfl
set_option maxRecDepth 20000 in
theorem k_L_law__40_c24 (call : Nat → List Value → qH → qR) (l0 : Nat) (l1 : Nat) (l2 : Nat) (l3 : Nat) (l4 : Int32) (l5 : Value) (l6 : Value) (h : qH) : q_run qm_L_law_ call 40 [.ref l0, .ref l1, .ref l2, .ref l3, .int l4, l5, l6] [.int (24 : Int32)] h =
  q_ald h (.ref l0) 0 (l4 + (1 : Int32)) fun x1 =>
  q_ald h (.ref l0) 0 (l4 + (2 : Int32)) fun x2 =>
  q_ald h (.ref l0) 0 (l4 + (3 : Int32)) fun x3 =>
  q_rI (call 301 [.ref l1, .int x1, .int x2, .int x3, .ref l3] h) q_t0 fun x5 h4 =>
  q_ald h4 (.ref l0) 0 (l4 + (1 : Int32)) fun x6 =>
  q_ald h4 (.ref l0) 0 (l4 + (2 : Int32)) fun x7 =>
  q_ald h4 (.ref l0) 0 (l4 + (3 : Int32)) fun x8 =>
  q_rcv h4 (.ref l2) 11 (q_rI (call 262 [.ref l2, .int x6, .int x7, .int x8] h4) q_t0 fun x10 h9 =>
  q_rcv h9 (.ref l2) 11 (q_rI (call 163 [.ref l2] h9) q_t0 fun x12 h11 =>
  if q_cmp .eq x12 x5 = true then
    if q_cmp .ne x5 (0 : Int32) = true then
      q_run qm_L_law_ call 1829 [.ref l0, .ref l1, .ref l2, .ref l3, .int l4, .int x5, .int x10] [] h11
    else
      q_lld h11 (.ref l3) (0 : Int32) fun y13 =>
      if q_cmp .eq (lg_cmp y13 (Int32.toInt64 x10)) (0 : Int32) = true then
        q_run qm_L_law_ call 1829 [.ref l0, .ref l1, .ref l2, .ref l3, .int l4, .int x5, .int x10] [] h11
      else
        q_boo true (0 : Int32) fun z => some (.inl (some (.int z)), h11)
  else
    q_boo true (0 : Int32) fun z => some (.inl (some (.int z)), h11))) := by
  refine (q_cut_eq _ _ [0, 23, 40, 326, 382, 438, 494, 576, 644, 712, 780, 848, 916, 1076, 1156, 1224, 1292, 1360, 1452, 1544, 1613, 1681, 1749, 1829, 1897, 1965, 2021, 2077, 2145, 2237, 2341, 2420] 200 _ _ _ _).trans ?_
  rfl
set_option maxRecDepth 20000 in
theorem k_L_law__40_c25 (call : Nat → List Value → qH → qR) (l0 : Nat) (l1 : Nat) (l2 : Nat) (l3 : Nat) (l4 : Int32) (l5 : Value) (l6 : Value) (h : qH) : q_run qm_L_law_ call 40 [.ref l0, .ref l1, .ref l2, .ref l3, .int l4, l5, l6] [.int (25 : Int32)] h =
  q_ald h (.ref l0) 0 (l4 + (1 : Int32)) fun x1 =>
  q_ald h (.ref l0) 0 (l4 + (2 : Int32)) fun x2 =>
  q_rI (call 302 [.ref l1, .int x1, .int x2, .ref l3] h) q_t0 fun x4 h3 =>
  q_ald h3 (.ref l0) 0 (l4 + (1 : Int32)) fun x5 =>
  q_ald h3 (.ref l0) 0 (l4 + (2 : Int32)) fun x6 =>
  q_rcv h3 (.ref l2) 11 (q_rI (call 263 [.ref l2, .int x5, .int x6] h3) q_t0 fun x8 h7 =>
  q_rcv h7 (.ref l2) 11 (q_rI (call 163 [.ref l2] h7) q_t0 fun x10 h9 =>
  if q_cmp .eq x10 x4 = true then
    if q_cmp .ne x4 (0 : Int32) = true then
      q_run qm_L_law_ call 1897 [.ref l0, .ref l1, .ref l2, .ref l3, .int l4, .int x4, .int x8] [] h9
    else
      q_lld h9 (.ref l3) (0 : Int32) fun y11 =>
      if q_cmp .eq (lg_cmp y11 (Int32.toInt64 x8)) (0 : Int32) = true then
        q_run qm_L_law_ call 1897 [.ref l0, .ref l1, .ref l2, .ref l3, .int l4, .int x4, .int x8] [] h9
      else
        q_boo true (0 : Int32) fun z => some (.inl (some (.int z)), h9)
  else
    q_boo true (0 : Int32) fun z => some (.inl (some (.int z)), h9))) := by
  refine (q_cut_eq _ _ [0, 23, 40, 326, 382, 438, 494, 576, 644, 712, 780, 848, 916, 1076, 1156, 1224, 1292, 1360, 1452, 1544, 1613, 1681, 1749, 1829, 1897, 1965, 2021, 2077, 2145, 2237, 2341, 2420] 200 _ _ _ _).trans ?_
  rfl
set_option maxRecDepth 20000 in
theorem k_L_law__40_c26 (call : Nat → List Value → qH → qR) (l0 : Nat) (l1 : Nat) (l2 : Nat) (l3 : Nat) (l4 : Int32) (l5 : Value) (l6 : Value) (h : qH) : q_run qm_L_law_ call 40 [.ref l0, .ref l1, .ref l2, .ref l3, .int l4, l5, l6] [.int (26 : Int32)] h =
  q_ald h (.ref l0) 0 (l4 + (1 : Int32)) fun x1 =>
  q_ald h (.ref l0) 0 (l4 + (2 : Int32)) fun x2 =>
  q_rI (call 303 [.ref l1, .int x1, .int x2, .ref l3] h) q_t0 fun x4 h3 =>
  q_ald h3 (.ref l0) 0 (l4 + (1 : Int32)) fun x5 =>
  q_ald h3 (.ref l0) 0 (l4 + (2 : Int32)) fun x6 =>
  q_rcv h3 (.ref l2) 11 (q_rI (call 265 [.ref l2, .int x5, .int x6] h3) q_t0 fun x8 h7 =>
  q_rcv h7 (.ref l2) 11 (q_rI (call 163 [.ref l2] h7) q_t0 fun x10 h9 =>
  if q_cmp .eq x10 x4 = true then
    if q_cmp .ne x4 (0 : Int32) = true then
      q_run qm_L_law_ call 1965 [.ref l0, .ref l1, .ref l2, .ref l3, .int l4, .int x4, .int x8] [] h9
    else
      q_lld h9 (.ref l3) (0 : Int32) fun y11 =>
      if q_cmp .eq (lg_cmp y11 (Int32.toInt64 x8)) (0 : Int32) = true then
        q_run qm_L_law_ call 1965 [.ref l0, .ref l1, .ref l2, .ref l3, .int l4, .int x4, .int x8] [] h9
      else
        q_boo true (0 : Int32) fun z => some (.inl (some (.int z)), h9)
  else
    q_boo true (0 : Int32) fun z => some (.inl (some (.int z)), h9))) := by
  refine (q_cut_eq _ _ [0, 23, 40, 326, 382, 438, 494, 576, 644, 712, 780, 848, 916, 1076, 1156, 1224, 1292, 1360, 1452, 1544, 1613, 1681, 1749, 1829, 1897, 1965, 2021, 2077, 2145, 2237, 2341, 2420] 200 _ _ _ _).trans ?_
  rfl
set_option maxRecDepth 20000 in
theorem k_L_law__40_c27 (call : Nat → List Value → qH → qR) (l0 : Nat) (l1 : Nat) (l2 : Nat) (l3 : Nat) (l4 : Int32) (l5 : Value) (l6 : Value) (h : qH) : q_run qm_L_law_ call 40 [.ref l0, .ref l1, .ref l2, .ref l3, .int l4, l5, l6] [.int (27 : Int32)] h =
  q_ald h (.ref l0) 0 (l4 + (1 : Int32)) fun x1 =>
  q_rI (call 304 [.ref l1, .int x1, .ref l3] h) q_t0 fun x3 h2 =>
  q_ald h2 (.ref l0) 0 (l4 + (1 : Int32)) fun x4 =>
  q_rcv h2 (.ref l2) 11 (q_rI (call 266 [.ref l2, .int x4] h2) q_t0 fun x6 h5 =>
  q_rcv h5 (.ref l2) 11 (q_rI (call 163 [.ref l2] h5) q_t0 fun x8 h7 =>
  if q_cmp .eq x8 x3 = true then
    if q_cmp .ne x3 (0 : Int32) = true then
      q_run qm_L_law_ call 2021 [.ref l0, .ref l1, .ref l2, .ref l3, .int l4, .int x3, .int x6] [] h7
    else
      q_lld h7 (.ref l3) (0 : Int32) fun y9 =>
      if q_cmp .eq (lg_cmp y9 (Int32.toInt64 x6)) (0 : Int32) = true then
        q_run qm_L_law_ call 2021 [.ref l0, .ref l1, .ref l2, .ref l3, .int l4, .int x3, .int x6] [] h7
      else
        q_boo true (0 : Int32) fun z => some (.inl (some (.int z)), h7)
  else
    q_boo true (0 : Int32) fun z => some (.inl (some (.int z)), h7))) := by
  refine (q_cut_eq _ _ [0, 23, 40, 326, 382, 438, 494, 576, 644, 712, 780, 848, 916, 1076, 1156, 1224, 1292, 1360, 1452, 1544, 1613, 1681, 1749, 1829, 1897, 1965, 2021, 2077, 2145, 2237, 2341, 2420] 200 _ _ _ _).trans ?_
  rfl
set_option maxRecDepth 20000 in
theorem k_L_law__40_c28 (call : Nat → List Value → qH → qR) (l0 : Nat) (l1 : Nat) (l2 : Nat) (l3 : Nat) (l4 : Int32) (l5 : Value) (l6 : Value) (h : qH) : q_run qm_L_law_ call 40 [.ref l0, .ref l1, .ref l2, .ref l3, .int l4, l5, l6] [.int (28 : Int32)] h =
  q_ald h (.ref l0) 0 (l4 + (1 : Int32)) fun x1 =>
  q_rI (call 305 [.ref l1, .int x1, .ref l3] h) q_t0 fun x3 h2 =>
  q_ald h2 (.ref l0) 0 (l4 + (1 : Int32)) fun x4 =>
  q_rcv h2 (.ref l2) 11 (q_rI (call 267 [.ref l2, .int x4] h2) q_t0 fun x6 h5 =>
  q_rcv h5 (.ref l2) 11 (q_rI (call 163 [.ref l2] h5) q_t0 fun x8 h7 =>
  if q_cmp .eq x8 x3 = true then
    if q_cmp .ne x3 (0 : Int32) = true then
      q_run qm_L_law_ call 2077 [.ref l0, .ref l1, .ref l2, .ref l3, .int l4, .int x3, .int x6] [] h7
    else
      q_lld h7 (.ref l3) (0 : Int32) fun y9 =>
      if q_cmp .eq (lg_cmp y9 (Int32.toInt64 x6)) (0 : Int32) = true then
        q_run qm_L_law_ call 2077 [.ref l0, .ref l1, .ref l2, .ref l3, .int l4, .int x3, .int x6] [] h7
      else
        q_boo true (0 : Int32) fun z => some (.inl (some (.int z)), h7)
  else
    q_boo true (0 : Int32) fun z => some (.inl (some (.int z)), h7))) := by
  refine (q_cut_eq _ _ [0, 23, 40, 326, 382, 438, 494, 576, 644, 712, 780, 848, 916, 1076, 1156, 1224, 1292, 1360, 1452, 1544, 1613, 1681, 1749, 1829, 1897, 1965, 2021, 2077, 2145, 2237, 2341, 2420] 200 _ _ _ _).trans ?_
  rfl
set_option maxRecDepth 20000 in
theorem k_L_law__40_c29 (call : Nat → List Value → qH → qR) (l0 : Nat) (l1 : Nat) (l2 : Nat) (l3 : Nat) (l4 : Int32) (l5 : Value) (l6 : Value) (h : qH) : q_run qm_L_law_ call 40 [.ref l0, .ref l1, .ref l2, .ref l3, .int l4, l5, l6] [.int (29 : Int32)] h =
  q_ald h (.ref l0) 0 (l4 + (1 : Int32)) fun x1 =>
  q_ald h (.ref l0) 0 (l4 + (2 : Int32)) fun x2 =>
  q_rI (call 306 [.ref l1, .int x1, .int x2, .ref l3] h) q_t0 fun x4 h3 =>
  q_ald h3 (.ref l0) 0 (l4 + (1 : Int32)) fun x5 =>
  q_ald h3 (.ref l0) 0 (l4 + (2 : Int32)) fun x6 =>
  q_rcv h3 (.ref l2) 11 (q_rI (call 268 [.ref l2, .int x5, .int x6] h3) q_t0 fun x8 h7 =>
  q_rcv h7 (.ref l2) 11 (q_rI (call 163 [.ref l2] h7) q_t0 fun x10 h9 =>
  if q_cmp .eq x10 x4 = true then
    if q_cmp .ne x4 (0 : Int32) = true then
      q_run qm_L_law_ call 2145 [.ref l0, .ref l1, .ref l2, .ref l3, .int l4, .int x4, .int x8] [] h9
    else
      q_lld h9 (.ref l3) (0 : Int32) fun y11 =>
      if q_cmp .eq (lg_cmp y11 (Int32.toInt64 x8)) (0 : Int32) = true then
        q_run qm_L_law_ call 2145 [.ref l0, .ref l1, .ref l2, .ref l3, .int l4, .int x4, .int x8] [] h9
      else
        q_boo true (0 : Int32) fun z => some (.inl (some (.int z)), h9)
  else
    q_boo true (0 : Int32) fun z => some (.inl (some (.int z)), h9))) := by
  refine (q_cut_eq _ _ [0, 23, 40, 326, 382, 438, 494, 576, 644, 712, 780, 848, 916, 1076, 1156, 1224, 1292, 1360, 1452, 1544, 1613, 1681, 1749, 1829, 1897, 1965, 2021, 2077, 2145, 2237, 2341, 2420] 200 _ _ _ _).trans ?_
  rfl
set_option maxRecDepth 20000 in
theorem k_L_law__40_c30 (call : Nat → List Value → qH → qR) (l0 : Nat) (l1 : Nat) (l2 : Nat) (l3 : Nat) (l4 : Int32) (l5 : Value) (l6 : Value) (h : qH) : q_run qm_L_law_ call 40 [.ref l0, .ref l1, .ref l2, .ref l3, .int l4, l5, l6] [.int (30 : Int32)] h =
  q_ald h (.ref l0) 0 (l4 + (1 : Int32)) fun x1 =>
  q_ald h (.ref l0) 0 (l4 + (2 : Int32)) fun x2 =>
  q_ald h (.ref l0) 0 (l4 + (3 : Int32)) fun x3 =>
  q_ald h (.ref l0) 0 (l4 + (4 : Int32)) fun x4 =>
  q_rI (call 307 [.ref l1, .int x1, .int x2, .int x3, .int x4, .ref l3] h) q_t0 fun x6 h5 =>
  q_ald h5 (.ref l0) 0 (l4 + (1 : Int32)) fun x7 =>
  q_ald h5 (.ref l0) 0 (l4 + (2 : Int32)) fun x8 =>
  q_ald h5 (.ref l0) 0 (l4 + (3 : Int32)) fun x9 =>
  q_ald h5 (.ref l0) 0 (l4 + (4 : Int32)) fun x10 =>
  q_rcv h5 (.ref l2) 11 (q_rI (call 273 [.ref l2, .int x7, .int x8, .int x9, .int x10] h5) q_t0 fun x12 h11 =>
  q_rcv h11 (.ref l2) 11 (q_rI (call 163 [.ref l2] h11) q_t0 fun x14 h13 =>
  if q_cmp .eq x14 x6 = true then
    if q_cmp .ne x6 (0 : Int32) = true then
      q_run qm_L_law_ call 2237 [.ref l0, .ref l1, .ref l2, .ref l3, .int l4, .int x6, .int x12] [] h13
    else
      q_lld h13 (.ref l3) (0 : Int32) fun y15 =>
      if q_cmp .eq (lg_cmp y15 (Int32.toInt64 x12)) (0 : Int32) = true then
        q_run qm_L_law_ call 2237 [.ref l0, .ref l1, .ref l2, .ref l3, .int l4, .int x6, .int x12] [] h13
      else
        q_boo true (0 : Int32) fun z => some (.inl (some (.int z)), h13)
  else
    q_boo true (0 : Int32) fun z => some (.inl (some (.int z)), h13))) := by
  refine (q_cut_eq _ _ [0, 23, 40, 326, 382, 438, 494, 576, 644, 712, 780, 848, 916, 1076, 1156, 1224, 1292, 1360, 1452, 1544, 1613, 1681, 1749, 1829, 1897, 1965, 2021, 2077, 2145, 2237, 2341, 2420] 200 _ _ _ _).trans ?_
  rfl
set_option maxRecDepth 20000 in
theorem k_L_law__40_c31 (call : Nat → List Value → qH → qR) (l0 : Nat) (l1 : Nat) (l2 : Nat) (l3 : Nat) (l4 : Int32) (l5 : Value) (l6 : Value) (h : qH) : q_run qm_L_law_ call 40 [.ref l0, .ref l1, .ref l2, .ref l3, .int l4, l5, l6] [.int (31 : Int32)] h =
  q_ald h (.ref l0) 0 (l4 + (1 : Int32)) fun x1 =>
  q_ald h (.ref l0) 0 (l4 + (2 : Int32)) fun x2 =>
  q_ald h (.ref l0) 0 (l4 + (3 : Int32)) fun x3 =>
  q_ald h (.ref l0) 0 (l4 + (4 : Int32)) fun x4 =>
  q_ald h (.ref l0) 0 (l4 + (5 : Int32)) fun x5 =>
  q_rI (call 308 [.ref l1, .int x1, .int x2, .int x3, .int x4, .int x5, .ref l3] h) q_t0 fun x7 h6 =>
  q_ald h6 (.ref l0) 0 (l4 + (1 : Int32)) fun x8 =>
  q_ald h6 (.ref l0) 0 (l4 + (2 : Int32)) fun x9 =>
  q_ald h6 (.ref l0) 0 (l4 + (3 : Int32)) fun x10 =>
  q_ald h6 (.ref l0) 0 (l4 + (4 : Int32)) fun x11 =>
  q_ald h6 (.ref l0) 0 (l4 + (5 : Int32)) fun x12 =>
  q_rcv h6 (.ref l2) 11 (q_rI (call 274 [.ref l2, .int x8, .int x9, .int x10, .int x11, .int x12] h6) q_t0 fun x14 h13 =>
  q_rcv h13 (.ref l2) 11 (q_rI (call 163 [.ref l2] h13) q_t0 fun x16 h15 =>
  if q_cmp .eq x16 x7 = true then
    if q_cmp .ne x7 (0 : Int32) = true then
      q_run qm_L_law_ call 2341 [.ref l0, .ref l1, .ref l2, .ref l3, .int l4, .int x7, .int x14] [] h15
    else
      q_lld h15 (.ref l3) (0 : Int32) fun y17 =>
      if q_cmp .eq (lg_cmp y17 (Int32.toInt64 x14)) (0 : Int32) = true then
        q_run qm_L_law_ call 2341 [.ref l0, .ref l1, .ref l2, .ref l3, .int l4, .int x7, .int x14] [] h15
      else
        q_boo true (0 : Int32) fun z => some (.inl (some (.int z)), h15)
  else
    q_boo true (0 : Int32) fun z => some (.inl (some (.int z)), h15))) := by
  refine (q_cut_eq _ _ [0, 23, 40, 326, 382, 438, 494, 576, 644, 712, 780, 848, 916, 1076, 1156, 1224, 1292, 1360, 1452, 1544, 1613, 1681, 1749, 1829, 1897, 1965, 2021, 2077, 2145, 2237, 2341, 2420] 200 _ _ _ _).trans ?_
  rfl
set_option maxRecDepth 20000 in
theorem k_L_law__40_c32 (call : Nat → List Value → qH → qR) (l0 : Nat) (l1 : Nat) (l2 : Nat) (l3 : Nat) (l4 : Int32) (l5 : Value) (l6 : Value) (h : qH) : q_run qm_L_law_ call 40 [.ref l0, .ref l1, .ref l2, .ref l3, .int l4, l5, l6] [.int (32 : Int32)] h =
  q_rcv h (.ref l1) 10 (q_rI (call 145 [.ref l1] h) q_t0 fun x2 h1 =>
  q_rcv h1 (.ref l2) 11 (q_rI (call 277 [.ref l2] h1) q_t0 fun x4 h3 =>
  if q_cmp .eq x2 x4 = true then
    q_run qm_L_law_ call 2420 [.ref l0, .ref l1, .ref l2, .ref l3, .int l4, l5, l6] [] h3
  else
    q_boo true (0 : Int32) fun z => some (.inl (some (.int z)), h3))) := by
  refine (q_cut_eq _ _ [0, 23, 40, 326, 382, 438, 494, 576, 644, 712, 780, 848, 916, 1076, 1156, 1224, 1292, 1360, 1452, 1544, 1613, 1681, 1749, 1829, 1897, 1965, 2021, 2077, 2145, 2237, 2341, 2420] 200 _ _ _ _).trans ?_
  rfl
set_option maxRecDepth 20000 in
theorem k_L_law__40_c33 (call : Nat → List Value → qH → qR) (l0 : Nat) (l1 : Nat) (l2 : Nat) (l3 : Nat) (l4 : Int32) (l5 : Value) (l6 : Value) (h : qH) : q_run qm_L_law_ call 40 [.ref l0, .ref l1, .ref l2, .ref l3, .int l4, l5, l6] [.int (33 : Int32)] h =
  q_rcv h (.ref l1) 10 (q_rI (call 146 [.ref l1] h) q_t0 fun x2 h1 =>
  q_rcv h1 (.ref l2) 11 (q_rI (call 278 [.ref l2] h1) q_t0 fun x4 h3 =>
  if q_cmp .eq x2 x4 = true then
    q_run qm_L_law_ call 2420 [.ref l0, .ref l1, .ref l2, .ref l3, .int l4, l5, l6] [] h3
  else
    q_boo true (0 : Int32) fun z => some (.inl (some (.int z)), h3))) := by
  refine (q_cut_eq _ _ [0, 23, 40, 326, 382, 438, 494, 576, 644, 712, 780, 848, 916, 1076, 1156, 1224, 1292, 1360, 1452, 1544, 1613, 1681, 1749, 1829, 1897, 1965, 2021, 2077, 2145, 2237, 2341, 2420] 200 _ _ _ _).trans ?_
  rfl
set_option maxRecDepth 20000 in
theorem k_L_law__40_c34 (call : Nat → List Value → qH → qR) (l0 : Nat) (l1 : Nat) (l2 : Nat) (l3 : Nat) (l4 : Int32) (l5 : Value) (l6 : Value) (h : qH) : q_run qm_L_law_ call 40 [.ref l0, .ref l1, .ref l2, .ref l3, .int l4, l5, l6] [.int (34 : Int32)] h =
  q_ald h (.ref l0) 0 (l4 + (1 : Int32)) fun x1 =>
  q_rcv h (.ref l1) 10 (q_rI (call 147 [.ref l1, .int x1] h) q_t0 fun x3 h2 =>
  q_ald h2 (.ref l0) 0 (l4 + (1 : Int32)) fun x4 =>
  q_rcv h2 (.ref l2) 11 (q_rI (call 279 [.ref l2, .int x4] h2) q_t0 fun x6 h5 =>
  if q_cmp .eq x3 x6 = true then
    q_run qm_L_law_ call 2420 [.ref l0, .ref l1, .ref l2, .ref l3, .int l4, l5, l6] [] h5
  else
    q_boo true (0 : Int32) fun z => some (.inl (some (.int z)), h5))) := by
  refine (q_cut_eq _ _ [0, 23, 40, 326, 382, 438, 494, 576, 644, 712, 780, 848, 916, 1076, 1156, 1224, 1292, 1360, 1452, 1544, 1613, 1681, 1749, 1829, 1897, 1965, 2021, 2077, 2145, 2237, 2341, 2420] 200 _ _ _ _).trans ?_
  rfl
set_option maxRecDepth 20000 in
theorem k_L_law__40_c35 (call : Nat → List Value → qH → qR) (l0 : Nat) (l1 : Nat) (l2 : Nat) (l3 : Nat) (l4 : Int32) (l5 : Value) (l6 : Value) (h : qH) : q_run qm_L_law_ call 40 [.ref l0, .ref l1, .ref l2, .ref l3, .int l4, l5, l6] [.int (35 : Int32)] h =
  q_ald h (.ref l0) 0 (l4 + (1 : Int32)) fun x1 =>
  q_rcv h (.ref l1) 10 (q_rI (call 148 [.ref l1, .int x1] h) q_t0 fun x3 h2 =>
  q_ald h2 (.ref l0) 0 (l4 + (1 : Int32)) fun x4 =>
  q_rcv h2 (.ref l2) 11 (q_rI (call 280 [.ref l2, .int x4] h2) q_t0 fun x6 h5 =>
  if q_cmp .eq x3 x6 = true then
    q_run qm_L_law_ call 2420 [.ref l0, .ref l1, .ref l2, .ref l3, .int l4, l5, l6] [] h5
  else
    q_boo true (0 : Int32) fun z => some (.inl (some (.int z)), h5))) := by
  refine (q_cut_eq _ _ [0, 23, 40, 326, 382, 438, 494, 576, 644, 712, 780, 848, 916, 1076, 1156, 1224, 1292, 1360, 1452, 1544, 1613, 1681, 1749, 1829, 1897, 1965, 2021, 2077, 2145, 2237, 2341, 2420] 200 _ _ _ _).trans ?_
  rfl
set_option maxRecDepth 20000 in
theorem k_L_law__40_d (call : Nat → List Value → qH → qR) (l0 : Nat) (l1 : Nat) (l2 : Nat) (l3 : Nat) (l4 : Int32) (l5 : Value) (l6 : Value) (s0 : Int32) (h : qH) (hx : s0.toInt < 0 ∨ 35 < s0.toInt) : q_run qm_L_law_ call 40 [.ref l0, .ref l1, .ref l2, .ref l3, .int l4, l5, l6] [.int s0] h =
  q_run qm_L_law_ call 2420 [.ref l0, .ref l1, .ref l2, .ref l3, .int l4, l5, l6] [] h := by
  refine (q_cut_eq _ _ [0, 23, 40, 326, 382, 438, 494, 576, 644, 712, 780, 848, 916, 1076, 1156, 1224, 1292, 1360, 1452, 1544, 1613, 1681, 1749, 1829, 1897, 1965, 2021, 2077, 2145, 2237, 2341, 2420] 200 _ _ _ _).trans ?_
  exact if_pos hx
set_option maxRecDepth 20000 in
theorem k_L_law__326 (call : Nat → List Value → qH → qR) (l0 : Nat) (l1 : Nat) (l2 : Nat) (l3 : Nat) (l4 : Int32) (l5 : Value) (l6 : Value) (h : qH) : q_run qm_L_law_ call 326 [.ref l0, .ref l1, .ref l2, .ref l3, .int l4, l5, l6] [] h =
  q_run qm_L_law_ call 2420 [.ref l0, .ref l1, .ref l2, .ref l3, .int l4, l5, l6] [] h := by
  refine (q_cut_eq _ _ [0, 23, 40, 326, 382, 438, 494, 576, 644, 712, 780, 848, 916, 1076, 1156, 1224, 1292, 1360, 1452, 1544, 1613, 1681, 1749, 1829, 1897, 1965, 2021, 2077, 2145, 2237, 2341, 2420] 200 _ _ _ _).trans ?_
  rfl
set_option maxRecDepth 20000 in
theorem k_L_law__382 (call : Nat → List Value → qH → qR) (l0 : Nat) (l1 : Nat) (l2 : Nat) (l3 : Nat) (l4 : Int32) (l5 : Value) (l6 : Value) (h : qH) : q_run qm_L_law_ call 382 [.ref l0, .ref l1, .ref l2, .ref l3, .int l4, l5, l6] [] h =
  q_run qm_L_law_ call 2420 [.ref l0, .ref l1, .ref l2, .ref l3, .int l4, l5, l6] [] h := by
  refine (q_cut_eq _ _ [0, 23, 40, 326, 382, 438, 494, 576, 644, 712, 780, 848, 916, 1076, 1156, 1224, 1292, 1360, 1452, 1544, 1613, 1681, 1749, 1829, 1897, 1965, 2021, 2077, 2145, 2237, 2341, 2420] 200 _ _ _ _).trans ?_
  rfl
set_option maxRecDepth 20000 in
theorem k_L_law__438 (call : Nat → List Value → qH → qR) (l0 : Nat) (l1 : Nat) (l2 : Nat) (l3 : Nat) (l4 : Int32) (l5 : Value) (l6 : Value) (h : qH) : q_run qm_L_law_ call 438 [.ref l0, .ref l1, .ref l2, .ref l3, .int l4, l5, l6] [] h =
  q_run qm_L_law_ call 2420 [.ref l0, .ref l1, .ref l2, .ref l3, .int l4, l5, l6] [] h := by
  refine (q_cut_eq _ _ [0, 23, 40, 326, 382, 438, 494, 576, 644, 712, 780, 848, 916, 1076, 1156, 1224, 1292, 1360, 1452, 1544, 1613, 1681, 1749, 1829, 1897, 1965, 2021, 2077, 2145, 2237, 2341, 2420] 200 _ _ _ _).trans ?_
  rfl
set_option maxRecDepth 20000 in
theorem k_L_law__494 (call : Nat → List Value → qH → qR) (l0 : Nat) (l1 : Nat) (l2 : Nat) (l3 : Nat) (l4 : Int32) (l5 : Value) (l6 : Value) (h : qH) : q_run qm_L_law_ call 494 [.ref l0, .ref l1, .ref l2, .ref l3, .int l4, l5, l6] [] h =
  q_run qm_L_law_ call 2420 [.ref l0, .ref l1, .ref l2, .ref l3, .int l4, l5, l6] [] h := by
  refine (q_cut_eq _ _ [0, 23, 40, 326, 382, 438, 494, 576, 644, 712, 780, 848, 916, 1076, 1156, 1224, 1292, 1360, 1452, 1544, 1613, 1681, 1749, 1829, 1897, 1965, 2021, 2077, 2145, 2237, 2341, 2420] 200 _ _ _ _).trans ?_
  rfl
set_option maxRecDepth 20000 in
theorem k_L_law__576 (call : Nat → List Value → qH → qR) (l0 : Nat) (l1 : Nat) (l2 : Nat) (l3 : Nat) (l4 : Int32) (l5 : Value) (l6 : Value) (h : qH) : q_run qm_L_law_ call 576 [.ref l0, .ref l1, .ref l2, .ref l3, .int l4, l5, l6] [] h =
  q_run qm_L_law_ call 2420 [.ref l0, .ref l1, .ref l2, .ref l3, .int l4, l5, l6] [] h := by
  refine (q_cut_eq _ _ [0, 23, 40, 326, 382, 438, 494, 576, 644, 712, 780, 848, 916, 1076, 1156, 1224, 1292, 1360, 1452, 1544, 1613, 1681, 1749, 1829, 1897, 1965, 2021, 2077, 2145, 2237, 2341, 2420] 200 _ _ _ _).trans ?_
  rfl
set_option maxRecDepth 20000 in
theorem k_L_law__644 (call : Nat → List Value → qH → qR) (l0 : Nat) (l1 : Nat) (l2 : Nat) (l3 : Nat) (l4 : Int32) (l5 : Value) (l6 : Value) (h : qH) : q_run qm_L_law_ call 644 [.ref l0, .ref l1, .ref l2, .ref l3, .int l4, l5, l6] [] h =
  q_run qm_L_law_ call 2420 [.ref l0, .ref l1, .ref l2, .ref l3, .int l4, l5, l6] [] h := by
  refine (q_cut_eq _ _ [0, 23, 40, 326, 382, 438, 494, 576, 644, 712, 780, 848, 916, 1076, 1156, 1224, 1292, 1360, 1452, 1544, 1613, 1681, 1749, 1829, 1897, 1965, 2021, 2077, 2145, 2237, 2341, 2420] 200 _ _ _ _).trans ?_
  rfl
set_option maxRecDepth 20000 in
theorem k_L_law__712 (call : Nat → List Value → qH → qR) (l0 : Nat) (l1 : Nat) (l2 : Nat) (l3 : Nat) (l4 : Int32) (l5 : Value) (l6 : Value) (h : qH) : q_run qm_L_law_ call 712 [.ref l0, .ref l1, .ref l2, .ref l3, .int l4, l5, l6] [] h =
  q_run qm_L_law_ call 2420 [.ref l0, .ref l1, .ref l2, .ref l3, .int l4, l5, l6] [] h := by
  refine (q_cut_eq _ _ [0, 23, 40, 326, 382, 438, 494, 576, 644, 712, 780, 848, 916, 1076, 1156, 1224, 1292, 1360, 1452, 1544, 1613, 1681, 1749, 1829, 1897, 1965, 2021, 2077, 2145, 2237, 2341, 2420] 200 _ _ _ _).trans ?_
  rfl
set_option maxRecDepth 20000 in
theorem k_L_law__780 (call : Nat → List Value → qH → qR) (l0 : Nat) (l1 : Nat) (l2 : Nat) (l3 : Nat) (l4 : Int32) (l5 : Value) (l6 : Value) (h : qH) : q_run qm_L_law_ call 780 [.ref l0, .ref l1, .ref l2, .ref l3, .int l4, l5, l6] [] h =
  q_run qm_L_law_ call 2420 [.ref l0, .ref l1, .ref l2, .ref l3, .int l4, l5, l6] [] h := by
  refine (q_cut_eq _ _ [0, 23, 40, 326, 382, 438, 494, 576, 644, 712, 780, 848, 916, 1076, 1156, 1224, 1292, 1360, 1452, 1544, 1613, 1681, 1749, 1829, 1897, 1965, 2021, 2077, 2145, 2237, 2341, 2420] 200 _ _ _ _).trans ?_
  rfl
set_option maxRecDepth 20000 in
theorem k_L_law__848 (call : Nat → List Value → qH → qR) (l0 : Nat) (l1 : Nat) (l2 : Nat) (l3 : Nat) (l4 : Int32) (l5 : Value) (l6 : Value) (h : qH) : q_run qm_L_law_ call 848 [.ref l0, .ref l1, .ref l2, .ref l3, .int l4, l5, l6] [] h =
  q_run qm_L_law_ call 2420 [.ref l0, .ref l1, .ref l2, .ref l3, .int l4, l5, l6] [] h := by
  refine (q_cut_eq _ _ [0, 23, 40, 326, 382, 438, 494, 576, 644, 712, 780, 848, 916, 1076, 1156, 1224, 1292, 1360, 1452, 1544, 1613, 1681, 1749, 1829, 1897, 1965, 2021, 2077, 2145, 2237, 2341, 2420] 200 _ _ _ _).trans ?_
  rfl
set_option maxRecDepth 20000 in
theorem k_L_law__916 (call : Nat → List Value → qH → qR) (l0 : Nat) (l1 : Nat) (l2 : Nat) (l3 : Nat) (l4 : Int32) (l5 : Value) (l6 : Value) (h : qH) : q_run qm_L_law_ call 916 [.ref l0, .ref l1, .ref l2, .ref l3, .int l4, l5, l6] [] h =
  q_run qm_L_law_ call 2420 [.ref l0, .ref l1, .ref l2, .ref l3, .int l4, l5, l6] [] h := by
  refine (q_cut_eq _ _ [0, 23, 40, 326, 382, 438, 494, 576, 644, 712, 780, 848, 916, 1076, 1156, 1224, 1292, 1360, 1452, 1544, 1613, 1681, 1749, 1829, 1897, 1965, 2021, 2077, 2145, 2237, 2341, 2420] 200 _ _ _ _).trans ?_
  rfl
set_option maxRecDepth 20000 in
theorem k_L_law__1076 (call : Nat → List Value → qH → qR) (l0 : Nat) (l1 : Nat) (l2 : Nat) (l3 : Nat) (l4 : Int32) (l5 : Value) (l6 : Value) (h : qH) : q_run qm_L_law_ call 1076 [.ref l0, .ref l1, .ref l2, .ref l3, .int l4, l5, l6] [] h =
  q_run qm_L_law_ call 2420 [.ref l0, .ref l1, .ref l2, .ref l3, .int l4, l5, l6] [] h := by
  refine (q_cut_eq _ _ [0, 23, 40, 326, 382, 438, 494, 576, 644, 712, 780, 848, 916, 1076, 1156, 1224, 1292, 1360, 1452, 1544, 1613, 1681, 1749, 1829, 1897, 1965, 2021, 2077, 2145, 2237, 2341, 2420] 200 _ _ _ _).trans ?_
  rfl
set_option maxRecDepth 20000 in
theorem k_L_law__1156 (call : Nat → List Value → qH → qR) (l0 : Nat) (l1 : Nat) (l2 : Nat) (l3 : Nat) (l4 : Int32) (l5 : Value) (l6 : Value) (h : qH) : q_run qm_L_law_ call 1156 [.ref l0, .ref l1, .ref l2, .ref l3, .int l4, l5, l6] [] h =
  q_run qm_L_law_ call 2420 [.ref l0, .ref l1, .ref l2, .ref l3, .int l4, l5, l6] [] h := by
  refine (q_cut_eq _ _ [0, 23, 40, 326, 382, 438, 494, 576, 644, 712, 780, 848, 916, 1076, 1156, 1224, 1292, 1360, 1452, 1544, 1613, 1681, 1749, 1829, 1897, 1965, 2021, 2077, 2145, 2237, 2341, 2420] 200 _ _ _ _).trans ?_
  rfl
set_option maxRecDepth 20000 in
theorem k_L_law__1224 (call : Nat → List Value → qH → qR) (l0 : Nat) (l1 : Nat) (l2 : Nat) (l3 : Nat) (l4 : Int32) (l5 : Value) (l6 : Value) (h : qH) : q_run qm_L_law_ call 1224 [.ref l0, .ref l1, .ref l2, .ref l3, .int l4, l5, l6] [] h =
  q_run qm_L_law_ call 2420 [.ref l0, .ref l1, .ref l2, .ref l3, .int l4, l5, l6] [] h := by
  refine (q_cut_eq _ _ [0, 23, 40, 326, 382, 438, 494, 576, 644, 712, 780, 848, 916, 1076, 1156, 1224, 1292, 1360, 1452, 1544, 1613, 1681, 1749, 1829, 1897, 1965, 2021, 2077, 2145, 2237, 2341, 2420] 200 _ _ _ _).trans ?_
  rfl
set_option maxRecDepth 20000 in
theorem k_L_law__1292 (call : Nat → List Value → qH → qR) (l0 : Nat) (l1 : Nat) (l2 : Nat) (l3 : Nat) (l4 : Int32) (l5 : Value) (l6 : Value) (h : qH) : q_run qm_L_law_ call 1292 [.ref l0, .ref l1, .ref l2, .ref l3, .int l4, l5, l6] [] h =
  q_run qm_L_law_ call 2420 [.ref l0, .ref l1, .ref l2, .ref l3, .int l4, l5, l6] [] h := by
  refine (q_cut_eq _ _ [0, 23, 40, 326, 382, 438, 494, 576, 644, 712, 780, 848, 916, 1076, 1156, 1224, 1292, 1360, 1452, 1544, 1613, 1681, 1749, 1829, 1897, 1965, 2021, 2077, 2145, 2237, 2341, 2420] 200 _ _ _ _).trans ?_
  rfl
set_option maxRecDepth 20000 in
theorem k_L_law__1360 (call : Nat → List Value → qH → qR) (l0 : Nat) (l1 : Nat) (l2 : Nat) (l3 : Nat) (l4 : Int32) (l5 : Value) (l6 : Value) (h : qH) : q_run qm_L_law_ call 1360 [.ref l0, .ref l1, .ref l2, .ref l3, .int l4, l5, l6] [] h =
  q_run qm_L_law_ call 2420 [.ref l0, .ref l1, .ref l2, .ref l3, .int l4, l5, l6] [] h := by
  refine (q_cut_eq _ _ [0, 23, 40, 326, 382, 438, 494, 576, 644, 712, 780, 848, 916, 1076, 1156, 1224, 1292, 1360, 1452, 1544, 1613, 1681, 1749, 1829, 1897, 1965, 2021, 2077, 2145, 2237, 2341, 2420] 200 _ _ _ _).trans ?_
  rfl
set_option maxRecDepth 20000 in
theorem k_L_law__1452 (call : Nat → List Value → qH → qR) (l0 : Nat) (l1 : Nat) (l2 : Nat) (l3 : Nat) (l4 : Int32) (l5 : Value) (l6 : Value) (h : qH) : q_run qm_L_law_ call 1452 [.ref l0, .ref l1, .ref l2, .ref l3, .int l4, l5, l6] [] h =
  q_run qm_L_law_ call 2420 [.ref l0, .ref l1, .ref l2, .ref l3, .int l4, l5, l6] [] h := by
  refine (q_cut_eq _ _ [0, 23, 40, 326, 382, 438, 494, 576, 644, 712, 780, 848, 916, 1076, 1156, 1224, 1292, 1360, 1452, 1544, 1613, 1681, 1749, 1829, 1897, 1965, 2021, 2077, 2145, 2237, 2341, 2420] 200 _ _ _ _).trans ?_
  rfl
set_option maxRecDepth 20000 in
theorem k_L_law__1544 (call : Nat → List Value → qH → qR) (l0 : Nat) (l1 : Nat) (l2 : Nat) (l3 : Nat) (l4 : Int32) (l5 : Value) (l6 : Value) (h : qH) : q_run qm_L_law_ call 1544 [.ref l0, .ref l1, .ref l2, .ref l3, .int l4, l5, l6] [] h =
  q_run qm_L_law_ call 2420 [.ref l0, .ref l1, .ref l2, .ref l3, .int l4, l5, l6] [] h := by
  refine (q_cut_eq _ _ [0, 23, 40, 326, 382, 438, 494, 576, 644, 712, 780, 848, 916, 1076, 1156, 1224, 1292, 1360, 1452, 1544, 1613, 1681, 1749, 1829, 1897, 1965, 2021, 2077, 2145, 2237, 2341, 2420] 200 _ _ _ _).trans ?_
  rfl
set_option maxRecDepth 20000 in
theorem k_L_law__1613 (call : Nat → List Value → qH → qR) (l0 : Nat) (l1 : Nat) (l2 : Nat) (l3 : Nat) (l4 : Int32) (l5 : Value) (l6 : Value) (h : qH) : q_run qm_L_law_ call 1613 [.ref l0, .ref l1, .ref l2, .ref l3, .int l4, l5, l6] [] h =
  q_run qm_L_law_ call 2420 [.ref l0, .ref l1, .ref l2, .ref l3, .int l4, l5, l6] [] h := by
  refine (q_cut_eq _ _ [0, 23, 40, 326, 382, 438, 494, 576, 644, 712, 780, 848, 916, 1076, 1156, 1224, 1292, 1360, 1452, 1544, 1613, 1681, 1749, 1829, 1897, 1965, 2021, 2077, 2145, 2237, 2341, 2420] 200 _ _ _ _).trans ?_
  rfl
set_option maxRecDepth 20000 in
theorem k_L_law__1681 (call : Nat → List Value → qH → qR) (l0 : Nat) (l1 : Nat) (l2 : Nat) (l3 : Nat) (l4 : Int32) (l5 : Value) (l6 : Value) (h : qH) : q_run qm_L_law_ call 1681 [.ref l0, .ref l1, .ref l2, .ref l3, .int l4, l5, l6] [] h =
  q_run qm_L_law_ call 2420 [.ref l0, .ref l1, .ref l2, .ref l3, .int l4, l5, l6] [] h := by
  refine (q_cut_eq _ _ [0, 23, 40, 326, 382, 438, 494, 576, 644, 712, 780, 848, 916, 1076, 1156, 1224, 1292, 1360, 1452, 1544, 1613, 1681, 1749, 1829, 1897, 1965, 2021, 2077, 2145, 2237, 2341, 2420] 200 _ _ _ _).trans ?_
  rfl
set_option maxRecDepth 20000 in
theorem k_L_law__1749 (call : Nat → List Value → qH → qR) (l0 : Nat) (l1 : Nat) (l2 : Nat) (l3 : Nat) (l4 : Int32) (l5 : Value) (l6 : Value) (h : qH) : q_run qm_L_law_ call 1749 [.ref l0, .ref l1, .ref l2, .ref l3, .int l4, l5, l6] [] h =
  q_run qm_L_law_ call 2420 [.ref l0, .ref l1, .ref l2, .ref l3, .int l4, l5, l6] [] h := by
  refine (q_cut_eq _ _ [0, 23, 40, 326, 382, 438, 494, 576, 644, 712, 780, 848, 916, 1076, 1156, 1224, 1292, 1360, 1452, 1544, 1613, 1681, 1749, 1829, 1897, 1965, 2021, 2077, 2145, 2237, 2341, 2420] 200 _ _ _ _).trans ?_
  rfl
set_option maxRecDepth 20000 in
theorem k_L_law__1829 (call : Nat → List Value → qH → qR) (l0 : Nat) (l1 : Nat) (l2 : Nat) (l3 : Nat) (l4 : Int32) (l5 : Value) (l6 : Value) (h : qH) : q_run qm_L_law_ call 1829 [.ref l0, .ref l1, .ref l2, .ref l3, .int l4, l5, l6] [] h =
  q_run qm_L_law_ call 2420 [.ref l0, .ref l1, .ref l2, .ref l3, .int l4, l5, l6] [] h := by
  refine (q_cut_eq _ _ [0, 23, 40, 326, 382, 438, 494, 576, 644, 712, 780, 848, 916, 1076, 1156, 1224, 1292, 1360, 1452, 1544, 1613, 1681, 1749, 1829, 1897, 1965, 2021, 2077, 2145, 2237, 2341, 2420] 200 _ _ _ _).trans ?_
  rfl
set_option maxRecDepth 20000 in
theorem k_L_law__1897 (call : Nat → List Value → qH → qR) (l0 : Nat) (l1 : Nat) (l2 : Nat) (l3 : Nat) (l4 : Int32) (l5 : Value) (l6 : Value) (h : qH) : q_run qm_L_law_ call 1897 [.ref l0, .ref l1, .ref l2, .ref l3, .int l4, l5, l6] [] h =
  q_run qm_L_law_ call 2420 [.ref l0, .ref l1, .ref l2, .ref l3, .int l4, l5, l6] [] h := by
  refine (q_cut_eq _ _ [0, 23, 40, 326, 382, 438, 494, 576, 644, 712, 780, 848, 916, 1076, 1156, 1224, 1292, 1360, 1452, 1544, 1613, 1681, 1749, 1829, 1897, 1965, 2021, 2077, 2145, 2237, 2341, 2420] 200 _ _ _ _).trans ?_
  rfl
set_option maxRecDepth 20000 in
theorem k_L_law__1965 (call : Nat → List Value → qH → qR) (l0 : Nat) (l1 : Nat) (l2 : Nat) (l3 : Nat) (l4 : Int32) (l5 : Value) (l6 : Value) (h : qH) : q_run qm_L_law_ call 1965 [.ref l0, .ref l1, .ref l2, .ref l3, .int l4, l5, l6] [] h =
  q_run qm_L_law_ call 2420 [.ref l0, .ref l1, .ref l2, .ref l3, .int l4, l5, l6] [] h := by
  refine (q_cut_eq _ _ [0, 23, 40, 326, 382, 438, 494, 576, 644, 712, 780, 848, 916, 1076, 1156, 1224, 1292, 1360, 1452, 1544, 1613, 1681, 1749, 1829, 1897, 1965, 2021, 2077, 2145, 2237, 2341, 2420] 200 _ _ _ _).trans ?_
  rfl
set_option maxRecDepth 20000 in
theorem k_L_law__2021 (call : Nat → List Value → qH → qR) (l0 : Nat) (l1 : Nat) (l2 : Nat) (l3 : Nat) (l4 : Int32) (l5 : Value) (l6 : Value) (h : qH) : q_run qm_L_law_ call 2021 [.ref l0, .ref l1, .ref l2, .ref l3, .int l4, l5, l6] [] h =
  q_run qm_L_law_ call 2420 [.ref l0, .ref l1, .ref l2, .ref l3, .int l4, l5, l6] [] h := by
  refine (q_cut_eq _ _ [0, 23, 40, 326, 382, 438, 494, 576, 644, 712, 780, 848, 916, 1076, 1156, 1224, 1292, 1360, 1452, 1544, 1613, 1681, 1749, 1829, 1897, 1965, 2021, 2077, 2145, 2237, 2341, 2420] 200 _ _ _ _).trans ?_
  rfl
set_option maxRecDepth 20000 in
theorem k_L_law__2077 (call : Nat → List Value → qH → qR) (l0 : Nat) (l1 : Nat) (l2 : Nat) (l3 : Nat) (l4 : Int32) (l5 : Value) (l6 : Value) (h : qH) : q_run qm_L_law_ call 2077 [.ref l0, .ref l1, .ref l2, .ref l3, .int l4, l5, l6] [] h =
  q_run qm_L_law_ call 2420 [.ref l0, .ref l1, .ref l2, .ref l3, .int l4, l5, l6] [] h := by
  refine (q_cut_eq _ _ [0, 23, 40, 326, 382, 438, 494, 576, 644, 712, 780, 848, 916, 1076, 1156, 1224, 1292, 1360, 1452, 1544, 1613, 1681, 1749, 1829, 1897, 1965, 2021, 2077, 2145, 2237, 2341, 2420] 200 _ _ _ _).trans ?_
  rfl
set_option maxRecDepth 20000 in
theorem k_L_law__2145 (call : Nat → List Value → qH → qR) (l0 : Nat) (l1 : Nat) (l2 : Nat) (l3 : Nat) (l4 : Int32) (l5 : Value) (l6 : Value) (h : qH) : q_run qm_L_law_ call 2145 [.ref l0, .ref l1, .ref l2, .ref l3, .int l4, l5, l6] [] h =
  q_run qm_L_law_ call 2420 [.ref l0, .ref l1, .ref l2, .ref l3, .int l4, l5, l6] [] h := by
  refine (q_cut_eq _ _ [0, 23, 40, 326, 382, 438, 494, 576, 644, 712, 780, 848, 916, 1076, 1156, 1224, 1292, 1360, 1452, 1544, 1613, 1681, 1749, 1829, 1897, 1965, 2021, 2077, 2145, 2237, 2341, 2420] 200 _ _ _ _).trans ?_
  rfl
set_option maxRecDepth 20000 in
theorem k_L_law__2237 (call : Nat → List Value → qH → qR) (l0 : Nat) (l1 : Nat) (l2 : Nat) (l3 : Nat) (l4 : Int32) (l5 : Value) (l6 : Value) (h : qH) : q_run qm_L_law_ call 2237 [.ref l0, .ref l1, .ref l2, .ref l3, .int l4, l5, l6] [] h =
  q_run qm_L_law_ call 2420 [.ref l0, .ref l1, .ref l2, .ref l3, .int l4, l5, l6] [] h := by
  refine (q_cut_eq _ _ [0, 23, 40, 326, 382, 438, 494, 576, 644, 712, 780, 848, 916, 1076, 1156, 1224, 1292, 1360, 1452, 1544, 1613, 1681, 1749, 1829, 1897, 1965, 2021, 2077, 2145, 2237, 2341, 2420] 200 _ _ _ _).trans ?_
  rfl
set_option maxRecDepth 20000 in
theorem k_L_law__2341 (call : Nat → List Value → qH → qR) (l0 : Nat) (l1 : Nat) (l2 : Nat) (l3 : Nat) (l4 : Int32) (l5 : Value) (l6 : Value) (h : qH) : q_run qm_L_law_ call 2341 [.ref l0, .ref l1, .ref l2, .ref l3, .int l4, l5, l6] [] h =
  q_run qm_L_law_ call 2420 [.ref l0, .ref l1, .ref l2, .ref l3, .int l4, l5, l6] [] h := by
  refine (q_cut_eq _ _ [0, 23, 40, 326, 382, 438, 494, 576, 644, 712, 780, 848, 916, 1076, 1156, 1224, 1292, 1360, 1452, 1544, 1613, 1681, 1749, 1829, 1897, 1965, 2021, 2077, 2145, 2237, 2341, 2420] 200 _ _ _ _).trans ?_
  rfl
set_option maxRecDepth 20000 in
theorem k_L_law__2420 (call : Nat → List Value → qH → qR) (l0 : Nat) (l1 : Nat) (l2 : Nat) (l3 : Nat) (l4 : Int32) (l5 : Value) (l6 : Value) (h : qH) : q_run qm_L_law_ call 2420 [.ref l0, .ref l1, .ref l2, .ref l3, .int l4, l5, l6] [] h =
  q_run qm_L_law_ call 23 [.ref l0, .ref l1, .ref l2, .ref l3, .int (l4 + (10 : Int32)), l5, l6] [] h := by
  refine (q_cut_eq _ _ [0, 23, 40, 326, 382, 438, 494, 576, 644, 712, 780, 848, 916, 1076, 1156, 1224, 1292, 1360, 1452, 1544, 1613, 1681, 1749, 1829, 1897, 1965, 2021, 2077, 2145, 2237, 2341, 2420] 200 _ _ _ _).trans ?_
  rfl
theorem hL_room_0 (call : Nat → List Value → qH → qR) (l0 : Nat) (l1 : Int32) (l2 : Nat) (h h1 : qH) (x : Int32) (hc : call 114 [.ref l0, .int l1] h = some (.inl (some (.int x)), h1)) : q_run qm_L_room call 0 [.ref l0, .int l1, .ref l2, q_junk] [] h = q_rcv h (.ref l0) 10 (q_lst h1 (.ref l2) (0 : Int32) (Int32.toInt64 x) fun h2 => some (.inl (some (.int (0 : Int32))), h2)) := by
  refine (q_cut_eq _ _ [0] 200 _ _ _ _).trans ?_
  show q_rcv h (.ref l0) 10 (q_rI (call 114 [.ref l0, .int l1] h) _ _) = _
  rw [hc]
  rfl
theorem hL_room_e1 (call : Nat → List Value → qH → qR) (l0 : Nat) (l1 : Int32) (l2 : Nat) (h h1 : qH) (q : Nat) (hc : call 114 [.ref l0, .int l1] h = some (.inr (1, q), h1)) : q_run qm_L_room call 0 [.ref l0, .int l1, .ref l2, q_junk] [] h = q_rcv h (.ref l0) 10 (some (.inl (some (.int (1 : Int32))), h1)) := by
  refine (q_cut_eq _ _ [0] 200 _ _ _ _).trans ?_
  show q_rcv h (.ref l0) 10 (q_rI (call 114 [.ref l0, .int l1] h) _ _) = _
  rw [hc]
  rfl
theorem hL_law_0 (call : Nat → List Value → qH → qR) (l0 : Nat) (l1 : Int32) (l2 : Nat) (h h1 : qH) (x : Int32) (hc : call 115 [.ref l0, .int l1] h = some (.inl (some (.int x)), h1)) : q_run qm_L_law call 0 [.ref l0, .int l1, .ref l2, q_junk] [] h = q_rcv h (.ref l0) 10 (q_lst h1 (.ref l2) (0 : Int32) (Int32.toInt64 x) fun h2 => some (.inl (some (.int (0 : Int32))), h2)) := by
  refine (q_cut_eq _ _ [0] 200 _ _ _ _).trans ?_
  show q_rcv h (.ref l0) 10 (q_rI (call 115 [.ref l0, .int l1] h) _ _) = _
  rw [hc]
  rfl
theorem hL_law_e1 (call : Nat → List Value → qH → qR) (l0 : Nat) (l1 : Int32) (l2 : Nat) (h h1 : qH) (q : Nat) (hc : call 115 [.ref l0, .int l1] h = some (.inr (1, q), h1)) : q_run qm_L_law call 0 [.ref l0, .int l1, .ref l2, q_junk] [] h = q_rcv h (.ref l0) 10 (some (.inl (some (.int (1 : Int32))), h1)) := by
  refine (q_cut_eq _ _ [0] 200 _ _ _ _).trans ?_
  show q_rcv h (.ref l0) 10 (q_rI (call 115 [.ref l0, .int l1] h) _ _) = _
  rw [hc]
  rfl
theorem hL_play_0 (call : Nat → List Value → qH → qR) (l0 : Nat) (l1 : Int32) (l2 : Nat) (h h1 : qH) (x : Int32) (hc : call 116 [.ref l0, .int l1] h = some (.inl (some (.int x)), h1)) : q_run qm_L_play call 0 [.ref l0, .int l1, .ref l2, q_junk] [] h = q_rcv h (.ref l0) 10 (q_lst h1 (.ref l2) (0 : Int32) (Int32.toInt64 x) fun h2 => some (.inl (some (.int (0 : Int32))), h2)) := by
  refine (q_cut_eq _ _ [0] 200 _ _ _ _).trans ?_
  show q_rcv h (.ref l0) 10 (q_rI (call 116 [.ref l0, .int l1] h) _ _) = _
  rw [hc]
  rfl
theorem hL_play_e1 (call : Nat → List Value → qH → qR) (l0 : Nat) (l1 : Int32) (l2 : Nat) (h h1 : qH) (q : Nat) (hc : call 116 [.ref l0, .int l1] h = some (.inr (1, q), h1)) : q_run qm_L_play call 0 [.ref l0, .int l1, .ref l2, q_junk] [] h = q_rcv h (.ref l0) 10 (some (.inl (some (.int (1 : Int32))), h1)) := by
  refine (q_cut_eq _ _ [0] 200 _ _ _ _).trans ?_
  show q_rcv h (.ref l0) 10 (q_rI (call 116 [.ref l0, .int l1] h) _ _) = _
  rw [hc]
  rfl
theorem hL_book_0 (call : Nat → List Value → qH → qR) (l0 : Nat) (l1 : Int32) (l2 : Nat) (h h1 : qH) (x : Int32) (hc : call 117 [.ref l0, .int l1] h = some (.inl (some (.int x)), h1)) : q_run qm_L_book call 0 [.ref l0, .int l1, .ref l2, q_junk] [] h = q_rcv h (.ref l0) 10 (q_lst h1 (.ref l2) (0 : Int32) (Int32.toInt64 x) fun h2 => some (.inl (some (.int (0 : Int32))), h2)) := by
  refine (q_cut_eq _ _ [0] 200 _ _ _ _).trans ?_
  show q_rcv h (.ref l0) 10 (q_rI (call 117 [.ref l0, .int l1] h) _ _) = _
  rw [hc]
  rfl
theorem hL_book_e1 (call : Nat → List Value → qH → qR) (l0 : Nat) (l1 : Int32) (l2 : Nat) (h h1 : qH) (q : Nat) (hc : call 117 [.ref l0, .int l1] h = some (.inr (1, q), h1)) : q_run qm_L_book call 0 [.ref l0, .int l1, .ref l2, q_junk] [] h = q_rcv h (.ref l0) 10 (some (.inl (some (.int (1 : Int32))), h1)) := by
  refine (q_cut_eq _ _ [0] 200 _ _ _ _).trans ?_
  show q_rcv h (.ref l0) 10 (q_rI (call 117 [.ref l0, .int l1] h) _ _) = _
  rw [hc]
  rfl
theorem hL_told_0 (call : Nat → List Value → qH → qR) (l0 : Nat) (l1 : Int32) (l2 : Nat) (h h1 : qH) (x : Int32) (hc : call 119 [.ref l0, .int l1] h = some (.inl (some (.int x)), h1)) : q_run qm_L_told call 0 [.ref l0, .int l1, .ref l2, q_junk] [] h = q_rcv h (.ref l0) 10 (q_lst h1 (.ref l2) (0 : Int32) (Int32.toInt64 x) fun h2 => some (.inl (some (.int (0 : Int32))), h2)) := by
  refine (q_cut_eq _ _ [0] 200 _ _ _ _).trans ?_
  show q_rcv h (.ref l0) 10 (q_rI (call 119 [.ref l0, .int l1] h) _ _) = _
  rw [hc]
  rfl
theorem hL_told_e1 (call : Nat → List Value → qH → qR) (l0 : Nat) (l1 : Int32) (l2 : Nat) (h h1 : qH) (q : Nat) (hc : call 119 [.ref l0, .int l1] h = some (.inr (1, q), h1)) : q_run qm_L_told call 0 [.ref l0, .int l1, .ref l2, q_junk] [] h = q_rcv h (.ref l0) 10 (some (.inl (some (.int (1 : Int32))), h1)) := by
  refine (q_cut_eq _ _ [0] 200 _ _ _ _).trans ?_
  show q_rcv h (.ref l0) 10 (q_rI (call 119 [.ref l0, .int l1] h) _ _) = _
  rw [hc]
  rfl
theorem hL_house_0 (call : Nat → List Value → qH → qR) (l0 : Nat) (l1 : Int32) (l2 : Int32) (l3 : Nat) (h h1 : qH) (x : Int32) (hc : call 120 [.ref l0, .int l1, .int l2] h = some (.inl (some (.int x)), h1)) : q_run qm_L_house call 0 [.ref l0, .int l1, .int l2, .ref l3, q_junk] [] h = q_rcv h (.ref l0) 10 (q_lst h1 (.ref l3) (0 : Int32) (Int32.toInt64 x) fun h2 => some (.inl (some (.int (0 : Int32))), h2)) := by
  refine (q_cut_eq _ _ [0] 200 _ _ _ _).trans ?_
  show q_rcv h (.ref l0) 10 (q_rI (call 120 [.ref l0, .int l1, .int l2] h) _ _) = _
  rw [hc]
  rfl
theorem hL_house_e0 (call : Nat → List Value → qH → qR) (l0 : Nat) (l1 : Int32) (l2 : Int32) (l3 : Nat) (h h1 : qH) (q : Nat) (hc : call 120 [.ref l0, .int l1, .int l2] h = some (.inr (0, q), h1)) : q_run qm_L_house call 0 [.ref l0, .int l1, .int l2, .ref l3, q_junk] [] h = q_rcv h (.ref l0) 10 (some (.inl (some (.int (1 : Int32))), h1)) := by
  refine (q_cut_eq _ _ [0] 200 _ _ _ _).trans ?_
  show q_rcv h (.ref l0) 10 (q_rI (call 120 [.ref l0, .int l1, .int l2] h) _ _) = _
  rw [hc]
  rfl
theorem hL_house_e1 (call : Nat → List Value → qH → qR) (l0 : Nat) (l1 : Int32) (l2 : Int32) (l3 : Nat) (h h1 : qH) (q : Nat) (hc : call 120 [.ref l0, .int l1, .int l2] h = some (.inr (1, q), h1)) : q_run qm_L_house call 0 [.ref l0, .int l1, .int l2, .ref l3, q_junk] [] h = q_rcv h (.ref l0) 10 (some (.inl (some (.int (2 : Int32))), h1)) := by
  refine (q_cut_eq _ _ [0] 200 _ _ _ _).trans ?_
  show q_rcv h (.ref l0) 10 (q_rI (call 120 [.ref l0, .int l1, .int l2] h) _ _) = _
  rw [hc]
  rfl
theorem hL_wink_0 (call : Nat → List Value → qH → qR) (l0 : Nat) (l1 : Int32) (l2 : Int32) (l3 : Nat) (h h1 : qH) (x : Int32) (hc : call 121 [.ref l0, .int l1, .int l2] h = some (.inl (some (.int x)), h1)) : q_run qm_L_wink call 0 [.ref l0, .int l1, .int l2, .ref l3, q_junk] [] h = q_rcv h (.ref l0) 10 (q_lst h1 (.ref l3) (0 : Int32) (Int32.toInt64 x) fun h2 => some (.inl (some (.int (0 : Int32))), h2)) := by
  refine (q_cut_eq _ _ [0] 200 _ _ _ _).trans ?_
  show q_rcv h (.ref l0) 10 (q_rI (call 121 [.ref l0, .int l1, .int l2] h) _ _) = _
  rw [hc]
  rfl
theorem hL_wink_e0 (call : Nat → List Value → qH → qR) (l0 : Nat) (l1 : Int32) (l2 : Int32) (l3 : Nat) (h h1 : qH) (q : Nat) (hc : call 121 [.ref l0, .int l1, .int l2] h = some (.inr (0, q), h1)) : q_run qm_L_wink call 0 [.ref l0, .int l1, .int l2, .ref l3, q_junk] [] h = q_rcv h (.ref l0) 10 (some (.inl (some (.int (1 : Int32))), h1)) := by
  refine (q_cut_eq _ _ [0] 200 _ _ _ _).trans ?_
  show q_rcv h (.ref l0) 10 (q_rI (call 121 [.ref l0, .int l1, .int l2] h) _ _) = _
  rw [hc]
  rfl
theorem hL_wink_e1 (call : Nat → List Value → qH → qR) (l0 : Nat) (l1 : Int32) (l2 : Int32) (l3 : Nat) (h h1 : qH) (q : Nat) (hc : call 121 [.ref l0, .int l1, .int l2] h = some (.inr (1, q), h1)) : q_run qm_L_wink call 0 [.ref l0, .int l1, .int l2, .ref l3, q_junk] [] h = q_rcv h (.ref l0) 10 (some (.inl (some (.int (2 : Int32))), h1)) := by
  refine (q_cut_eq _ _ [0] 200 _ _ _ _).trans ?_
  show q_rcv h (.ref l0) 10 (q_rI (call 121 [.ref l0, .int l1, .int l2] h) _ _) = _
  rw [hc]
  rfl
theorem hL_cup_0 (call : Nat → List Value → qH → qR) (l0 : Nat) (l1 : Int32) (l2 : Int32) (l3 : Nat) (h h1 : qH) (x : Int32) (hc : call 122 [.ref l0, .int l1, .int l2] h = some (.inl (some (.int x)), h1)) : q_run qm_L_cup call 0 [.ref l0, .int l1, .int l2, .ref l3, q_junk] [] h = q_rcv h (.ref l0) 10 (q_lst h1 (.ref l3) (0 : Int32) (Int32.toInt64 x) fun h2 => some (.inl (some (.int (0 : Int32))), h2)) := by
  refine (q_cut_eq _ _ [0] 200 _ _ _ _).trans ?_
  show q_rcv h (.ref l0) 10 (q_rI (call 122 [.ref l0, .int l1, .int l2] h) _ _) = _
  rw [hc]
  rfl
theorem hL_cup_e0 (call : Nat → List Value → qH → qR) (l0 : Nat) (l1 : Int32) (l2 : Int32) (l3 : Nat) (h h1 : qH) (q : Nat) (hc : call 122 [.ref l0, .int l1, .int l2] h = some (.inr (0, q), h1)) : q_run qm_L_cup call 0 [.ref l0, .int l1, .int l2, .ref l3, q_junk] [] h = q_rcv h (.ref l0) 10 (some (.inl (some (.int (1 : Int32))), h1)) := by
  refine (q_cut_eq _ _ [0] 200 _ _ _ _).trans ?_
  show q_rcv h (.ref l0) 10 (q_rI (call 122 [.ref l0, .int l1, .int l2] h) _ _) = _
  rw [hc]
  rfl
theorem hL_cup_e1 (call : Nat → List Value → qH → qR) (l0 : Nat) (l1 : Int32) (l2 : Int32) (l3 : Nat) (h h1 : qH) (q : Nat) (hc : call 122 [.ref l0, .int l1, .int l2] h = some (.inr (1, q), h1)) : q_run qm_L_cup call 0 [.ref l0, .int l1, .int l2, .ref l3, q_junk] [] h = q_rcv h (.ref l0) 10 (some (.inl (some (.int (2 : Int32))), h1)) := by
  refine (q_cut_eq _ _ [0] 200 _ _ _ _).trans ?_
  show q_rcv h (.ref l0) 10 (q_rI (call 122 [.ref l0, .int l1, .int l2] h) _ _) = _
  rw [hc]
  rfl
theorem hL_cell_0 (call : Nat → List Value → qH → qR) (l0 : Nat) (l1 : Int32) (l2 : Int32) (l3 : Nat) (h h1 : qH) (x : Int32) (hc : call 123 [.ref l0, .int l1, .int l2] h = some (.inl (some (.int x)), h1)) : q_run qm_L_cell call 0 [.ref l0, .int l1, .int l2, .ref l3, q_junk] [] h = q_rcv h (.ref l0) 10 (q_lst h1 (.ref l3) (0 : Int32) (Int32.toInt64 x) fun h2 => some (.inl (some (.int (0 : Int32))), h2)) := by
  refine (q_cut_eq _ _ [0] 200 _ _ _ _).trans ?_
  show q_rcv h (.ref l0) 10 (q_rI (call 123 [.ref l0, .int l1, .int l2] h) _ _) = _
  rw [hc]
  rfl
theorem hL_cell_e0 (call : Nat → List Value → qH → qR) (l0 : Nat) (l1 : Int32) (l2 : Int32) (l3 : Nat) (h h1 : qH) (q : Nat) (hc : call 123 [.ref l0, .int l1, .int l2] h = some (.inr (0, q), h1)) : q_run qm_L_cell call 0 [.ref l0, .int l1, .int l2, .ref l3, q_junk] [] h = q_rcv h (.ref l0) 10 (some (.inl (some (.int (1 : Int32))), h1)) := by
  refine (q_cut_eq _ _ [0] 200 _ _ _ _).trans ?_
  show q_rcv h (.ref l0) 10 (q_rI (call 123 [.ref l0, .int l1, .int l2] h) _ _) = _
  rw [hc]
  rfl
theorem hL_cell_e1 (call : Nat → List Value → qH → qR) (l0 : Nat) (l1 : Int32) (l2 : Int32) (l3 : Nat) (h h1 : qH) (q : Nat) (hc : call 123 [.ref l0, .int l1, .int l2] h = some (.inr (1, q), h1)) : q_run qm_L_cell call 0 [.ref l0, .int l1, .int l2, .ref l3, q_junk] [] h = q_rcv h (.ref l0) 10 (some (.inl (some (.int (2 : Int32))), h1)) := by
  refine (q_cut_eq _ _ [0] 200 _ _ _ _).trans ?_
  show q_rcv h (.ref l0) 10 (q_rI (call 123 [.ref l0, .int l1, .int l2] h) _ _) = _
  rw [hc]
  rfl
theorem hL_flies_0 (call : Nat → List Value → qH → qR) (l0 : Nat) (l1 : Int32) (l2 : Int32) (l3 : Nat) (h h1 : qH) (x : Int32) (hc : call 125 [.ref l0, .int l1, .int l2] h = some (.inl (some (.int x)), h1)) : q_run qm_L_flies call 0 [.ref l0, .int l1, .int l2, .ref l3, q_junk] [] h = q_rcv h (.ref l0) 10 (q_lst h1 (.ref l3) (0 : Int32) (Int32.toInt64 x) fun h2 => some (.inl (some (.int (0 : Int32))), h2)) := by
  refine (q_cut_eq _ _ [0] 200 _ _ _ _).trans ?_
  show q_rcv h (.ref l0) 10 (q_rI (call 125 [.ref l0, .int l1, .int l2] h) _ _) = _
  rw [hc]
  rfl
theorem hL_flies_e0 (call : Nat → List Value → qH → qR) (l0 : Nat) (l1 : Int32) (l2 : Int32) (l3 : Nat) (h h1 : qH) (q : Nat) (hc : call 125 [.ref l0, .int l1, .int l2] h = some (.inr (0, q), h1)) : q_run qm_L_flies call 0 [.ref l0, .int l1, .int l2, .ref l3, q_junk] [] h = q_rcv h (.ref l0) 10 (some (.inl (some (.int (1 : Int32))), h1)) := by
  refine (q_cut_eq _ _ [0] 200 _ _ _ _).trans ?_
  show q_rcv h (.ref l0) 10 (q_rI (call 125 [.ref l0, .int l1, .int l2] h) _ _) = _
  rw [hc]
  rfl
theorem hL_flies_e1 (call : Nat → List Value → qH → qR) (l0 : Nat) (l1 : Int32) (l2 : Int32) (l3 : Nat) (h h1 : qH) (q : Nat) (hc : call 125 [.ref l0, .int l1, .int l2] h = some (.inr (1, q), h1)) : q_run qm_L_flies call 0 [.ref l0, .int l1, .int l2, .ref l3, q_junk] [] h = q_rcv h (.ref l0) 10 (some (.inl (some (.int (2 : Int32))), h1)) := by
  refine (q_cut_eq _ _ [0] 200 _ _ _ _).trans ?_
  show q_rcv h (.ref l0) 10 (q_rI (call 125 [.ref l0, .int l1, .int l2] h) _ _) = _
  rw [hc]
  rfl
theorem hL_would_0 (call : Nat → List Value → qH → qR) (l0 : Nat) (l1 : Int32) (l2 : Int32) (l3 : Int32) (l4 : Int32) (l5 : Int32) (l6 : Int32) (l7 : Int32) (l8 : Int32) (l9 : Int32) (l10 : Nat) (h h1 : qH) (x : Int32) (hc : call 126 [.ref l0, .int l1, .int l2, .int l3, .int l4, .int l5, .int l6, .int l7, .int l8, .int l9] h = some (.inl (some (.int x)), h1)) : q_run qm_L_would call 0 [.ref l0, .int l1, .int l2, .int l3, .int l4, .int l5, .int l6, .int l7, .int l8, .int l9, .ref l10, q_junk] [] h = q_rcv h (.ref l0) 10 (q_lst h1 (.ref l10) (0 : Int32) (Int32.toInt64 x) fun h2 => some (.inl (some (.int (0 : Int32))), h2)) := by
  refine (q_cut_eq _ _ [0] 200 _ _ _ _).trans ?_
  show q_rcv h (.ref l0) 10 (q_rI (call 126 [.ref l0, .int l1, .int l2, .int l3, .int l4, .int l5, .int l6, .int l7, .int l8, .int l9] h) _ _) = _
  rw [hc]
  rfl
theorem hL_would_e1 (call : Nat → List Value → qH → qR) (l0 : Nat) (l1 : Int32) (l2 : Int32) (l3 : Int32) (l4 : Int32) (l5 : Int32) (l6 : Int32) (l7 : Int32) (l8 : Int32) (l9 : Int32) (l10 : Nat) (h h1 : qH) (q : Nat) (hc : call 126 [.ref l0, .int l1, .int l2, .int l3, .int l4, .int l5, .int l6, .int l7, .int l8, .int l9] h = some (.inr (1, q), h1)) : q_run qm_L_would call 0 [.ref l0, .int l1, .int l2, .int l3, .int l4, .int l5, .int l6, .int l7, .int l8, .int l9, .ref l10, q_junk] [] h = q_rcv h (.ref l0) 10 (some (.inl (some (.int (1 : Int32))), h1)) := by
  refine (q_cut_eq _ _ [0] 200 _ _ _ _).trans ?_
  show q_rcv h (.ref l0) 10 (q_rI (call 126 [.ref l0, .int l1, .int l2, .int l3, .int l4, .int l5, .int l6, .int l7, .int l8, .int l9] h) _ _) = _
  rw [hc]
  rfl
theorem hL_down_0 (call : Nat → List Value → qH → qR) (l0 : Nat) (l1 : Int32) (l2 : Int32) (l3 : Int32) (l4 : Nat) (h h1 : qH) (x : Int32) (hc : call 127 [.ref l0, .int l1, .int l2, .int l3] h = some (.inl (some (.int x)), h1)) : q_run qm_L_down call 0 [.ref l0, .int l1, .int l2, .int l3, .ref l4, q_junk] [] h = q_rcv h (.ref l0) 10 (q_lst h1 (.ref l4) (0 : Int32) (Int32.toInt64 x) fun h2 => some (.inl (some (.int (0 : Int32))), h2)) := by
  refine (q_cut_eq _ _ [0] 200 _ _ _ _).trans ?_
  show q_rcv h (.ref l0) 10 (q_rI (call 127 [.ref l0, .int l1, .int l2, .int l3] h) _ _) = _
  rw [hc]
  rfl
theorem hL_down_e0 (call : Nat → List Value → qH → qR) (l0 : Nat) (l1 : Int32) (l2 : Int32) (l3 : Int32) (l4 : Nat) (h h1 : qH) (q : Nat) (hc : call 127 [.ref l0, .int l1, .int l2, .int l3] h = some (.inr (0, q), h1)) : q_run qm_L_down call 0 [.ref l0, .int l1, .int l2, .int l3, .ref l4, q_junk] [] h = q_rcv h (.ref l0) 10 (some (.inl (some (.int (1 : Int32))), h1)) := by
  refine (q_cut_eq _ _ [0] 200 _ _ _ _).trans ?_
  show q_rcv h (.ref l0) 10 (q_rI (call 127 [.ref l0, .int l1, .int l2, .int l3] h) _ _) = _
  rw [hc]
  rfl
theorem hL_down_e1 (call : Nat → List Value → qH → qR) (l0 : Nat) (l1 : Int32) (l2 : Int32) (l3 : Int32) (l4 : Nat) (h h1 : qH) (q : Nat) (hc : call 127 [.ref l0, .int l1, .int l2, .int l3] h = some (.inr (1, q), h1)) : q_run qm_L_down call 0 [.ref l0, .int l1, .int l2, .int l3, .ref l4, q_junk] [] h = q_rcv h (.ref l0) 10 (some (.inl (some (.int (2 : Int32))), h1)) := by
  refine (q_cut_eq _ _ [0] 200 _ _ _ _).trans ?_
  show q_rcv h (.ref l0) 10 (q_rI (call 127 [.ref l0, .int l1, .int l2, .int l3] h) _ _) = _
  rw [hc]
  rfl
theorem hL_presses_0 (call : Nat → List Value → qH → qR) (l0 : Nat) (l1 : Int32) (l2 : Int32) (l3 : Nat) (h h1 : qH) (x : Int32) (hc : call 128 [.ref l0, .int l1, .int l2] h = some (.inl (some (.int x)), h1)) : q_run qm_L_presses call 0 [.ref l0, .int l1, .int l2, .ref l3, q_junk] [] h = q_rcv h (.ref l0) 10 (q_lst h1 (.ref l3) (0 : Int32) (Int32.toInt64 x) fun h2 => some (.inl (some (.int (0 : Int32))), h2)) := by
  refine (q_cut_eq _ _ [0] 200 _ _ _ _).trans ?_
  show q_rcv h (.ref l0) 10 (q_rI (call 128 [.ref l0, .int l1, .int l2] h) _ _) = _
  rw [hc]
  rfl
theorem hL_presses_e0 (call : Nat → List Value → qH → qR) (l0 : Nat) (l1 : Int32) (l2 : Int32) (l3 : Nat) (h h1 : qH) (q : Nat) (hc : call 128 [.ref l0, .int l1, .int l2] h = some (.inr (0, q), h1)) : q_run qm_L_presses call 0 [.ref l0, .int l1, .int l2, .ref l3, q_junk] [] h = q_rcv h (.ref l0) 10 (some (.inl (some (.int (1 : Int32))), h1)) := by
  refine (q_cut_eq _ _ [0] 200 _ _ _ _).trans ?_
  show q_rcv h (.ref l0) 10 (q_rI (call 128 [.ref l0, .int l1, .int l2] h) _ _) = _
  rw [hc]
  rfl
theorem hL_presses_e1 (call : Nat → List Value → qH → qR) (l0 : Nat) (l1 : Int32) (l2 : Int32) (l3 : Nat) (h h1 : qH) (q : Nat) (hc : call 128 [.ref l0, .int l1, .int l2] h = some (.inr (1, q), h1)) : q_run qm_L_presses call 0 [.ref l0, .int l1, .int l2, .ref l3, q_junk] [] h = q_rcv h (.ref l0) 10 (some (.inl (some (.int (2 : Int32))), h1)) := by
  refine (q_cut_eq _ _ [0] 200 _ _ _ _).trans ?_
  show q_rcv h (.ref l0) 10 (q_rI (call 128 [.ref l0, .int l1, .int l2] h) _ _) = _
  rw [hc]
  rfl
theorem hL_gain_0 (call : Nat → List Value → qH → qR) (l0 : Nat) (l1 : Int32) (l2 : Int32) (l3 : Nat) (h h1 : qH) (x : Int32) (hc : call 129 [.ref l0, .int l1, .int l2] h = some (.inl (some (.int x)), h1)) : q_run qm_L_gain call 0 [.ref l0, .int l1, .int l2, .ref l3, q_junk] [] h = q_rcv h (.ref l0) 10 (q_lst h1 (.ref l3) (0 : Int32) (Int32.toInt64 x) fun h2 => some (.inl (some (.int (0 : Int32))), h2)) := by
  refine (q_cut_eq _ _ [0] 200 _ _ _ _).trans ?_
  show q_rcv h (.ref l0) 10 (q_rI (call 129 [.ref l0, .int l1, .int l2] h) _ _) = _
  rw [hc]
  rfl
theorem hL_gain_e0 (call : Nat → List Value → qH → qR) (l0 : Nat) (l1 : Int32) (l2 : Int32) (l3 : Nat) (h h1 : qH) (q : Nat) (hc : call 129 [.ref l0, .int l1, .int l2] h = some (.inr (0, q), h1)) : q_run qm_L_gain call 0 [.ref l0, .int l1, .int l2, .ref l3, q_junk] [] h = q_rcv h (.ref l0) 10 (some (.inl (some (.int (1 : Int32))), h1)) := by
  refine (q_cut_eq _ _ [0] 200 _ _ _ _).trans ?_
  show q_rcv h (.ref l0) 10 (q_rI (call 129 [.ref l0, .int l1, .int l2] h) _ _) = _
  rw [hc]
  rfl
theorem hL_gain_e1 (call : Nat → List Value → qH → qR) (l0 : Nat) (l1 : Int32) (l2 : Int32) (l3 : Nat) (h h1 : qH) (q : Nat) (hc : call 129 [.ref l0, .int l1, .int l2] h = some (.inr (1, q), h1)) : q_run qm_L_gain call 0 [.ref l0, .int l1, .int l2, .ref l3, q_junk] [] h = q_rcv h (.ref l0) 10 (some (.inl (some (.int (2 : Int32))), h1)) := by
  refine (q_cut_eq _ _ [0] 200 _ _ _ _).trans ?_
  show q_rcv h (.ref l0) 10 (q_rI (call 129 [.ref l0, .int l1, .int l2] h) _ _) = _
  rw [hc]
  rfl
theorem hL_way_0 (call : Nat → List Value → qH → qR) (l0 : Nat) (l1 : Int32) (l2 : Int32) (l3 : Nat) (h h1 : qH) (x : Int32) (hc : call 130 [.ref l0, .int l1, .int l2] h = some (.inl (some (.int x)), h1)) : q_run qm_L_way call 0 [.ref l0, .int l1, .int l2, .ref l3, q_junk] [] h = q_rcv h (.ref l0) 10 (q_lst h1 (.ref l3) (0 : Int32) (Int32.toInt64 x) fun h2 => some (.inl (some (.int (0 : Int32))), h2)) := by
  refine (q_cut_eq _ _ [0] 200 _ _ _ _).trans ?_
  show q_rcv h (.ref l0) 10 (q_rI (call 130 [.ref l0, .int l1, .int l2] h) _ _) = _
  rw [hc]
  rfl
theorem hL_way_e0 (call : Nat → List Value → qH → qR) (l0 : Nat) (l1 : Int32) (l2 : Int32) (l3 : Nat) (h h1 : qH) (q : Nat) (hc : call 130 [.ref l0, .int l1, .int l2] h = some (.inr (0, q), h1)) : q_run qm_L_way call 0 [.ref l0, .int l1, .int l2, .ref l3, q_junk] [] h = q_rcv h (.ref l0) 10 (some (.inl (some (.int (1 : Int32))), h1)) := by
  refine (q_cut_eq _ _ [0] 200 _ _ _ _).trans ?_
  show q_rcv h (.ref l0) 10 (q_rI (call 130 [.ref l0, .int l1, .int l2] h) _ _) = _
  rw [hc]
  rfl
theorem hL_way_e1 (call : Nat → List Value → qH → qR) (l0 : Nat) (l1 : Int32) (l2 : Int32) (l3 : Nat) (h h1 : qH) (q : Nat) (hc : call 130 [.ref l0, .int l1, .int l2] h = some (.inr (1, q), h1)) : q_run qm_L_way call 0 [.ref l0, .int l1, .int l2, .ref l3, q_junk] [] h = q_rcv h (.ref l0) 10 (some (.inl (some (.int (2 : Int32))), h1)) := by
  refine (q_cut_eq _ _ [0] 200 _ _ _ _).trans ?_
  show q_rcv h (.ref l0) 10 (q_rI (call 130 [.ref l0, .int l1, .int l2] h) _ _) = _
  rw [hc]
  rfl
theorem hL_odds_0 (call : Nat → List Value → qH → qR) (l0 : Nat) (l1 : Int32) (l2 : Int32) (l3 : Int32) (l4 : Int32) (l5 : Nat) (h h1 : qH) (x : Int32) (hc : call 131 [.ref l0, .int l1, .int l2, .int l3, .int l4] h = some (.inl (some (.int x)), h1)) : q_run qm_L_odds call 0 [.ref l0, .int l1, .int l2, .int l3, .int l4, .ref l5, q_junk] [] h = q_rcv h (.ref l0) 10 (q_lst h1 (.ref l5) (0 : Int32) (Int32.toInt64 x) fun h2 => some (.inl (some (.int (0 : Int32))), h2)) := by
  refine (q_cut_eq _ _ [0] 200 _ _ _ _).trans ?_
  show q_rcv h (.ref l0) 10 (q_rI (call 131 [.ref l0, .int l1, .int l2, .int l3, .int l4] h) _ _) = _
  rw [hc]
  rfl
theorem hL_odds_e0 (call : Nat → List Value → qH → qR) (l0 : Nat) (l1 : Int32) (l2 : Int32) (l3 : Int32) (l4 : Int32) (l5 : Nat) (h h1 : qH) (q : Nat) (hc : call 131 [.ref l0, .int l1, .int l2, .int l3, .int l4] h = some (.inr (0, q), h1)) : q_run qm_L_odds call 0 [.ref l0, .int l1, .int l2, .int l3, .int l4, .ref l5, q_junk] [] h = q_rcv h (.ref l0) 10 (some (.inl (some (.int (1 : Int32))), h1)) := by
  refine (q_cut_eq _ _ [0] 200 _ _ _ _).trans ?_
  show q_rcv h (.ref l0) 10 (q_rI (call 131 [.ref l0, .int l1, .int l2, .int l3, .int l4] h) _ _) = _
  rw [hc]
  rfl
theorem hL_odds_e1 (call : Nat → List Value → qH → qR) (l0 : Nat) (l1 : Int32) (l2 : Int32) (l3 : Int32) (l4 : Int32) (l5 : Nat) (h h1 : qH) (q : Nat) (hc : call 131 [.ref l0, .int l1, .int l2, .int l3, .int l4] h = some (.inr (1, q), h1)) : q_run qm_L_odds call 0 [.ref l0, .int l1, .int l2, .int l3, .int l4, .ref l5, q_junk] [] h = q_rcv h (.ref l0) 10 (some (.inl (some (.int (2 : Int32))), h1)) := by
  refine (q_cut_eq _ _ [0] 200 _ _ _ _).trans ?_
  show q_rcv h (.ref l0) 10 (q_rI (call 131 [.ref l0, .int l1, .int l2, .int l3, .int l4] h) _ _) = _
  rw [hc]
  rfl
theorem hL_mean_0 (call : Nat → List Value → qH → qR) (l0 : Nat) (l1 : Int32) (l2 : Int32) (l3 : Int32) (l4 : Int32) (l5 : Nat) (h h1 : qH) (x : Int32) (hc : call 132 [.ref l0, .int l1, .int l2, .int l3, .int l4] h = some (.inl (some (.int x)), h1)) : q_run qm_L_mean call 0 [.ref l0, .int l1, .int l2, .int l3, .int l4, .ref l5, q_junk] [] h = q_rcv h (.ref l0) 10 (q_lst h1 (.ref l5) (0 : Int32) (Int32.toInt64 x) fun h2 => some (.inl (some (.int (0 : Int32))), h2)) := by
  refine (q_cut_eq _ _ [0] 200 _ _ _ _).trans ?_
  show q_rcv h (.ref l0) 10 (q_rI (call 132 [.ref l0, .int l1, .int l2, .int l3, .int l4] h) _ _) = _
  rw [hc]
  rfl
theorem hL_mean_e0 (call : Nat → List Value → qH → qR) (l0 : Nat) (l1 : Int32) (l2 : Int32) (l3 : Int32) (l4 : Int32) (l5 : Nat) (h h1 : qH) (q : Nat) (hc : call 132 [.ref l0, .int l1, .int l2, .int l3, .int l4] h = some (.inr (0, q), h1)) : q_run qm_L_mean call 0 [.ref l0, .int l1, .int l2, .int l3, .int l4, .ref l5, q_junk] [] h = q_rcv h (.ref l0) 10 (some (.inl (some (.int (1 : Int32))), h1)) := by
  refine (q_cut_eq _ _ [0] 200 _ _ _ _).trans ?_
  show q_rcv h (.ref l0) 10 (q_rI (call 132 [.ref l0, .int l1, .int l2, .int l3, .int l4] h) _ _) = _
  rw [hc]
  rfl
theorem hL_mean_e1 (call : Nat → List Value → qH → qR) (l0 : Nat) (l1 : Int32) (l2 : Int32) (l3 : Int32) (l4 : Int32) (l5 : Nat) (h h1 : qH) (q : Nat) (hc : call 132 [.ref l0, .int l1, .int l2, .int l3, .int l4] h = some (.inr (1, q), h1)) : q_run qm_L_mean call 0 [.ref l0, .int l1, .int l2, .int l3, .int l4, .ref l5, q_junk] [] h = q_rcv h (.ref l0) 10 (some (.inl (some (.int (2 : Int32))), h1)) := by
  refine (q_cut_eq _ _ [0] 200 _ _ _ _).trans ?_
  show q_rcv h (.ref l0) 10 (q_rI (call 132 [.ref l0, .int l1, .int l2, .int l3, .int l4] h) _ _) = _
  rw [hc]
  rfl
theorem hL_matched_0 (call : Nat → List Value → qH → qR) (l0 : Nat) (l1 : Int32) (l2 : Nat) (h h1 : qH) (x : Int32) (hc : call 134 [.ref l0, .int l1] h = some (.inl (some (.int x)), h1)) : q_run qm_L_matched call 0 [.ref l0, .int l1, .ref l2, q_junk] [] h = q_rcv h (.ref l0) 10 (q_lst h1 (.ref l2) (0 : Int32) (Int32.toInt64 x) fun h2 => some (.inl (some (.int (0 : Int32))), h2)) := by
  refine (q_cut_eq _ _ [0] 200 _ _ _ _).trans ?_
  show q_rcv h (.ref l0) 10 (q_rI (call 134 [.ref l0, .int l1] h) _ _) = _
  rw [hc]
  rfl
theorem hL_matched_e0 (call : Nat → List Value → qH → qR) (l0 : Nat) (l1 : Int32) (l2 : Nat) (h h1 : qH) (q : Nat) (hc : call 134 [.ref l0, .int l1] h = some (.inr (0, q), h1)) : q_run qm_L_matched call 0 [.ref l0, .int l1, .ref l2, q_junk] [] h = q_rcv h (.ref l0) 10 (some (.inl (some (.int (1 : Int32))), h1)) := by
  refine (q_cut_eq _ _ [0] 200 _ _ _ _).trans ?_
  show q_rcv h (.ref l0) 10 (q_rI (call 134 [.ref l0, .int l1] h) _ _) = _
  rw [hc]
  rfl
theorem hL_fits_0 (call : Nat → List Value → qH → qR) (l0 : Nat) (l1 : Int32) (l2 : Int32) (l3 : Nat) (h h1 : qH) (x : Int32) (hc : call 135 [.ref l0, .int l1, .int l2] h = some (.inl (some (.int x)), h1)) : q_run qm_L_fits call 0 [.ref l0, .int l1, .int l2, .ref l3, q_junk] [] h = q_rcv h (.ref l0) 10 (q_lst h1 (.ref l3) (0 : Int32) (Int32.toInt64 x) fun h2 => some (.inl (some (.int (0 : Int32))), h2)) := by
  refine (q_cut_eq _ _ [0] 200 _ _ _ _).trans ?_
  show q_rcv h (.ref l0) 10 (q_rI (call 135 [.ref l0, .int l1, .int l2] h) _ _) = _
  rw [hc]
  rfl
theorem hL_fits_e0 (call : Nat → List Value → qH → qR) (l0 : Nat) (l1 : Int32) (l2 : Int32) (l3 : Nat) (h h1 : qH) (q : Nat) (hc : call 135 [.ref l0, .int l1, .int l2] h = some (.inr (0, q), h1)) : q_run qm_L_fits call 0 [.ref l0, .int l1, .int l2, .ref l3, q_junk] [] h = q_rcv h (.ref l0) 10 (some (.inl (some (.int (1 : Int32))), h1)) := by
  refine (q_cut_eq _ _ [0] 200 _ _ _ _).trans ?_
  show q_rcv h (.ref l0) 10 (q_rI (call 135 [.ref l0, .int l1, .int l2] h) _ _) = _
  rw [hc]
  rfl
theorem hL_fits_e1 (call : Nat → List Value → qH → qR) (l0 : Nat) (l1 : Int32) (l2 : Int32) (l3 : Nat) (h h1 : qH) (q : Nat) (hc : call 135 [.ref l0, .int l1, .int l2] h = some (.inr (1, q), h1)) : q_run qm_L_fits call 0 [.ref l0, .int l1, .int l2, .ref l3, q_junk] [] h = q_rcv h (.ref l0) 10 (some (.inl (some (.int (2 : Int32))), h1)) := by
  refine (q_cut_eq _ _ [0] 200 _ _ _ _).trans ?_
  show q_rcv h (.ref l0) 10 (q_rI (call 135 [.ref l0, .int l1, .int l2] h) _ _) = _
  rw [hc]
  rfl
theorem hL_look_0 (call : Nat → List Value → qH → qR) (l0 : Nat) (l1 : Int32) (l2 : Int32) (l3 : Nat) (h h1 : qH) (x : Int32) (hc : call 136 [.ref l0, .int l1, .int l2] h = some (.inl (some (.int x)), h1)) : q_run qm_L_look call 0 [.ref l0, .int l1, .int l2, .ref l3, q_junk] [] h = q_rcv h (.ref l0) 10 (q_lst h1 (.ref l3) (0 : Int32) (Int32.toInt64 x) fun h2 => some (.inl (some (.int (0 : Int32))), h2)) := by
  refine (q_cut_eq _ _ [0] 200 _ _ _ _).trans ?_
  show q_rcv h (.ref l0) 10 (q_rI (call 136 [.ref l0, .int l1, .int l2] h) _ _) = _
  rw [hc]
  rfl
theorem hL_look_e0 (call : Nat → List Value → qH → qR) (l0 : Nat) (l1 : Int32) (l2 : Int32) (l3 : Nat) (h h1 : qH) (q : Nat) (hc : call 136 [.ref l0, .int l1, .int l2] h = some (.inr (0, q), h1)) : q_run qm_L_look call 0 [.ref l0, .int l1, .int l2, .ref l3, q_junk] [] h = q_rcv h (.ref l0) 10 (some (.inl (some (.int (1 : Int32))), h1)) := by
  refine (q_cut_eq _ _ [0] 200 _ _ _ _).trans ?_
  show q_rcv h (.ref l0) 10 (q_rI (call 136 [.ref l0, .int l1, .int l2] h) _ _) = _
  rw [hc]
  rfl
theorem hL_look_e1 (call : Nat → List Value → qH → qR) (l0 : Nat) (l1 : Int32) (l2 : Int32) (l3 : Nat) (h h1 : qH) (q : Nat) (hc : call 136 [.ref l0, .int l1, .int l2] h = some (.inr (1, q), h1)) : q_run qm_L_look call 0 [.ref l0, .int l1, .int l2, .ref l3, q_junk] [] h = q_rcv h (.ref l0) 10 (some (.inl (some (.int (2 : Int32))), h1)) := by
  refine (q_cut_eq _ _ [0] 200 _ _ _ _).trans ?_
  show q_rcv h (.ref l0) 10 (q_rI (call 136 [.ref l0, .int l1, .int l2] h) _ _) = _
  rw [hc]
  rfl
theorem hL_duel_0 (call : Nat → List Value → qH → qR) (l0 : Nat) (l1 : Int32) (l2 : Int32) (l3 : Int32) (l4 : Nat) (h h1 : qH) (x : Int32) (hc : call 137 [.ref l0, .int l1, .int l2, .int l3] h = some (.inl (some (.int x)), h1)) : q_run qm_L_duel call 0 [.ref l0, .int l1, .int l2, .int l3, .ref l4, q_junk] [] h = q_rcv h (.ref l0) 10 (q_lst h1 (.ref l4) (0 : Int32) (Int32.toInt64 x) fun h2 => some (.inl (some (.int (0 : Int32))), h2)) := by
  refine (q_cut_eq _ _ [0] 200 _ _ _ _).trans ?_
  show q_rcv h (.ref l0) 10 (q_rI (call 137 [.ref l0, .int l1, .int l2, .int l3] h) _ _) = _
  rw [hc]
  rfl
theorem hL_duel_e0 (call : Nat → List Value → qH → qR) (l0 : Nat) (l1 : Int32) (l2 : Int32) (l3 : Int32) (l4 : Nat) (h h1 : qH) (q : Nat) (hc : call 137 [.ref l0, .int l1, .int l2, .int l3] h = some (.inr (0, q), h1)) : q_run qm_L_duel call 0 [.ref l0, .int l1, .int l2, .int l3, .ref l4, q_junk] [] h = q_rcv h (.ref l0) 10 (some (.inl (some (.int (1 : Int32))), h1)) := by
  refine (q_cut_eq _ _ [0] 200 _ _ _ _).trans ?_
  show q_rcv h (.ref l0) 10 (q_rI (call 137 [.ref l0, .int l1, .int l2, .int l3] h) _ _) = _
  rw [hc]
  rfl
theorem hL_duel_e1 (call : Nat → List Value → qH → qR) (l0 : Nat) (l1 : Int32) (l2 : Int32) (l3 : Int32) (l4 : Nat) (h h1 : qH) (q : Nat) (hc : call 137 [.ref l0, .int l1, .int l2, .int l3] h = some (.inr (1, q), h1)) : q_run qm_L_duel call 0 [.ref l0, .int l1, .int l2, .int l3, .ref l4, q_junk] [] h = q_rcv h (.ref l0) 10 (some (.inl (some (.int (2 : Int32))), h1)) := by
  refine (q_cut_eq _ _ [0] 200 _ _ _ _).trans ?_
  show q_rcv h (.ref l0) 10 (q_rI (call 137 [.ref l0, .int l1, .int l2, .int l3] h) _ _) = _
  rw [hc]
  rfl
theorem hL_panic_0 (call : Nat → List Value → qH → qR) (l0 : Nat) (l1 : Int32) (l2 : Int32) (l3 : Nat) (h h1 : qH) (x : Int32) (hc : call 138 [.ref l0, .int l1, .int l2] h = some (.inl (some (.int x)), h1)) : q_run qm_L_panic call 0 [.ref l0, .int l1, .int l2, .ref l3, q_junk] [] h = q_rcv h (.ref l0) 10 (q_lst h1 (.ref l3) (0 : Int32) (Int32.toInt64 x) fun h2 => some (.inl (some (.int (0 : Int32))), h2)) := by
  refine (q_cut_eq _ _ [0] 200 _ _ _ _).trans ?_
  show q_rcv h (.ref l0) 10 (q_rI (call 138 [.ref l0, .int l1, .int l2] h) _ _) = _
  rw [hc]
  rfl
theorem hL_panic_e1 (call : Nat → List Value → qH → qR) (l0 : Nat) (l1 : Int32) (l2 : Int32) (l3 : Nat) (h h1 : qH) (q : Nat) (hc : call 138 [.ref l0, .int l1, .int l2] h = some (.inr (1, q), h1)) : q_run qm_L_panic call 0 [.ref l0, .int l1, .int l2, .ref l3, q_junk] [] h = q_rcv h (.ref l0) 10 (some (.inl (some (.int (1 : Int32))), h1)) := by
  refine (q_cut_eq _ _ [0] 200 _ _ _ _).trans ?_
  show q_rcv h (.ref l0) 10 (q_rI (call 138 [.ref l0, .int l1, .int l2] h) _ _) = _
  rw [hc]
  rfl
theorem hL_level_0 (call : Nat → List Value → qH → qR) (l0 : Nat) (l1 : Int32) (l2 : Int32) (l3 : Nat) (h h1 : qH) (x : Int32) (hc : call 139 [.ref l0, .int l1, .int l2] h = some (.inl (some (.int x)), h1)) : q_run qm_L_level call 0 [.ref l0, .int l1, .int l2, .ref l3, q_junk] [] h = q_rcv h (.ref l0) 10 (q_lst h1 (.ref l3) (0 : Int32) (Int32.toInt64 x) fun h2 => some (.inl (some (.int (0 : Int32))), h2)) := by
  refine (q_cut_eq _ _ [0] 200 _ _ _ _).trans ?_
  show q_rcv h (.ref l0) 10 (q_rI (call 139 [.ref l0, .int l1, .int l2] h) _ _) = _
  rw [hc]
  rfl
theorem hL_level_e0 (call : Nat → List Value → qH → qR) (l0 : Nat) (l1 : Int32) (l2 : Int32) (l3 : Nat) (h h1 : qH) (q : Nat) (hc : call 139 [.ref l0, .int l1, .int l2] h = some (.inr (0, q), h1)) : q_run qm_L_level call 0 [.ref l0, .int l1, .int l2, .ref l3, q_junk] [] h = q_rcv h (.ref l0) 10 (some (.inl (some (.int (1 : Int32))), h1)) := by
  refine (q_cut_eq _ _ [0] 200 _ _ _ _).trans ?_
  show q_rcv h (.ref l0) 10 (q_rI (call 139 [.ref l0, .int l1, .int l2] h) _ _) = _
  rw [hc]
  rfl
theorem hL_level_e1 (call : Nat → List Value → qH → qR) (l0 : Nat) (l1 : Int32) (l2 : Int32) (l3 : Nat) (h h1 : qH) (q : Nat) (hc : call 139 [.ref l0, .int l1, .int l2] h = some (.inr (1, q), h1)) : q_run qm_L_level call 0 [.ref l0, .int l1, .int l2, .ref l3, q_junk] [] h = q_rcv h (.ref l0) 10 (some (.inl (some (.int (2 : Int32))), h1)) := by
  refine (q_cut_eq _ _ [0] 200 _ _ _ _).trans ?_
  show q_rcv h (.ref l0) 10 (q_rI (call 139 [.ref l0, .int l1, .int l2] h) _ _) = _
  rw [hc]
  rfl
theorem hL_trust_0 (call : Nat → List Value → qH → qR) (l0 : Nat) (l1 : Int32) (l2 : Nat) (h h1 : qH) (x : Int32) (hc : call 124 [.ref l0, .int l1] h = some (.inl (some (.int x)), h1)) : q_run qm_L_trust call 0 [.ref l0, .int l1, .ref l2, q_junk] [] h = q_rcv h (.ref l0) 10 (q_lst h1 (.ref l2) (0 : Int32) (Int32.toInt64 x) fun h2 => some (.inl (some (.int (0 : Int32))), h2)) := by
  refine (q_cut_eq _ _ [0] 200 _ _ _ _).trans ?_
  show q_rcv h (.ref l0) 10 (q_rI (call 124 [.ref l0, .int l1] h) _ _) = _
  rw [hc]
  rfl
theorem hL_trust_e1 (call : Nat → List Value → qH → qR) (l0 : Nat) (l1 : Int32) (l2 : Nat) (h h1 : qH) (q : Nat) (hc : call 124 [.ref l0, .int l1] h = some (.inr (1, q), h1)) : q_run qm_L_trust call 0 [.ref l0, .int l1, .ref l2, q_junk] [] h = q_rcv h (.ref l0) 10 (some (.inl (some (.int (1 : Int32))), h1)) := by
  refine (q_cut_eq _ _ [0] 200 _ _ _ _).trans ?_
  show q_rcv h (.ref l0) 10 (q_rI (call 124 [.ref l0, .int l1] h) _ _) = _
  rw [hc]
  rfl
theorem hL_richest_0 (call : Nat → List Value → qH → qR) (l0 : Nat) (l1 : Int32) (l2 : Nat) (h h1 : qH) (x : Int32) (hc : call 140 [.ref l0, .int l1] h = some (.inl (some (.int x)), h1)) : q_run qm_L_richest call 0 [.ref l0, .int l1, .ref l2, q_junk] [] h = q_rcv h (.ref l0) 10 (q_lst h1 (.ref l2) (0 : Int32) (Int32.toInt64 x) fun h2 => some (.inl (some (.int (0 : Int32))), h2)) := by
  refine (q_cut_eq _ _ [0] 200 _ _ _ _).trans ?_
  show q_rcv h (.ref l0) 10 (q_rI (call 140 [.ref l0, .int l1] h) _ _) = _
  rw [hc]
  rfl
theorem hL_richest_e1 (call : Nat → List Value → qH → qR) (l0 : Nat) (l1 : Int32) (l2 : Nat) (h h1 : qH) (q : Nat) (hc : call 140 [.ref l0, .int l1] h = some (.inr (1, q), h1)) : q_run qm_L_richest call 0 [.ref l0, .int l1, .ref l2, q_junk] [] h = q_rcv h (.ref l0) 10 (some (.inl (some (.int (1 : Int32))), h1)) := by
  refine (q_cut_eq _ _ [0] 200 _ _ _ _).trans ?_
  show q_rcv h (.ref l0) 10 (q_rI (call 140 [.ref l0, .int l1] h) _ _) = _
  rw [hc]
  rfl
theorem hL_ahead_0 (call : Nat → List Value → qH → qR) (l0 : Nat) (l1 : Int32) (l2 : Int32) (l3 : Nat) (h h1 : qH) (x : Int32) (hc : call 141 [.ref l0, .int l1, .int l2] h = some (.inl (some (.int x)), h1)) : q_run qm_L_ahead call 0 [.ref l0, .int l1, .int l2, .ref l3, q_junk] [] h = q_rcv h (.ref l0) 10 (q_lst h1 (.ref l3) (0 : Int32) (Int32.toInt64 x) fun h2 => some (.inl (some (.int (0 : Int32))), h2)) := by
  refine (q_cut_eq _ _ [0] 200 _ _ _ _).trans ?_
  show q_rcv h (.ref l0) 10 (q_rI (call 141 [.ref l0, .int l1, .int l2] h) _ _) = _
  rw [hc]
  rfl
theorem hL_ahead_e0 (call : Nat → List Value → qH → qR) (l0 : Nat) (l1 : Int32) (l2 : Int32) (l3 : Nat) (h h1 : qH) (q : Nat) (hc : call 141 [.ref l0, .int l1, .int l2] h = some (.inr (0, q), h1)) : q_run qm_L_ahead call 0 [.ref l0, .int l1, .int l2, .ref l3, q_junk] [] h = q_rcv h (.ref l0) 10 (some (.inl (some (.int (1 : Int32))), h1)) := by
  refine (q_cut_eq _ _ [0] 200 _ _ _ _).trans ?_
  show q_rcv h (.ref l0) 10 (q_rI (call 141 [.ref l0, .int l1, .int l2] h) _ _) = _
  rw [hc]
  rfl
theorem hL_ahead_e1 (call : Nat → List Value → qH → qR) (l0 : Nat) (l1 : Int32) (l2 : Int32) (l3 : Nat) (h h1 : qH) (q : Nat) (hc : call 141 [.ref l0, .int l1, .int l2] h = some (.inr (1, q), h1)) : q_run qm_L_ahead call 0 [.ref l0, .int l1, .int l2, .ref l3, q_junk] [] h = q_rcv h (.ref l0) 10 (some (.inl (some (.int (2 : Int32))), h1)) := by
  refine (q_cut_eq _ _ [0] 200 _ _ _ _).trans ?_
  show q_rcv h (.ref l0) 10 (q_rI (call 141 [.ref l0, .int l1, .int l2] h) _ _) = _
  rw [hc]
  rfl
theorem hL_season_0 (call : Nat → List Value → qH → qR) (l0 : Nat) (l1 : Int32) (l2 : Int32) (l3 : Int32) (l4 : Int32) (l5 : Nat) (h h1 : qH) (x : Int32) (hc : call 142 [.ref l0, .int l1, .int l2, .int l3, .int l4] h = some (.inl (some (.int x)), h1)) : q_run qm_L_season call 0 [.ref l0, .int l1, .int l2, .int l3, .int l4, .ref l5, q_junk] [] h = q_rcv h (.ref l0) 10 (q_lst h1 (.ref l5) (0 : Int32) (Int32.toInt64 x) fun h2 => some (.inl (some (.int (0 : Int32))), h2)) := by
  refine (q_cut_eq _ _ [0] 200 _ _ _ _).trans ?_
  show q_rcv h (.ref l0) 10 (q_rI (call 142 [.ref l0, .int l1, .int l2, .int l3, .int l4] h) _ _) = _
  rw [hc]
  rfl
theorem hL_season_e1 (call : Nat → List Value → qH → qR) (l0 : Nat) (l1 : Int32) (l2 : Int32) (l3 : Int32) (l4 : Int32) (l5 : Nat) (h h1 : qH) (q : Nat) (hc : call 142 [.ref l0, .int l1, .int l2, .int l3, .int l4] h = some (.inr (1, q), h1)) : q_run qm_L_season call 0 [.ref l0, .int l1, .int l2, .int l3, .int l4, .ref l5, q_junk] [] h = q_rcv h (.ref l0) 10 (some (.inl (some (.int (1 : Int32))), h1)) := by
  refine (q_cut_eq _ _ [0] 200 _ _ _ _).trans ?_
  show q_rcv h (.ref l0) 10 (q_rI (call 142 [.ref l0, .int l1, .int l2, .int l3, .int l4] h) _ _) = _
  rw [hc]
  rfl
theorem hL_span_0 (call : Nat → List Value → qH → qR) (l0 : Nat) (l1 : Int32) (l2 : Int32) (l3 : Int32) (l4 : Int32) (l5 : Int32) (l6 : Nat) (h h1 : qH) (x : Int32) (hc : call 143 [.ref l0, .int l1, .int l2, .int l3, .int l4, .int l5] h = some (.inl (some (.int x)), h1)) : q_run qm_L_span call 0 [.ref l0, .int l1, .int l2, .int l3, .int l4, .int l5, .ref l6, q_junk] [] h = q_rcv h (.ref l0) 10 (q_lst h1 (.ref l6) (0 : Int32) (Int32.toInt64 x) fun h2 => some (.inl (some (.int (0 : Int32))), h2)) := by
  refine (q_cut_eq _ _ [0] 200 _ _ _ _).trans ?_
  show q_rcv h (.ref l0) 10 (q_rI (call 143 [.ref l0, .int l1, .int l2, .int l3, .int l4, .int l5] h) _ _) = _
  rw [hc]
  rfl
theorem hL_span_e1 (call : Nat → List Value → qH → qR) (l0 : Nat) (l1 : Int32) (l2 : Int32) (l3 : Int32) (l4 : Int32) (l5 : Int32) (l6 : Nat) (h h1 : qH) (q : Nat) (hc : call 143 [.ref l0, .int l1, .int l2, .int l3, .int l4, .int l5] h = some (.inr (1, q), h1)) : q_run qm_L_span call 0 [.ref l0, .int l1, .int l2, .int l3, .int l4, .int l5, .ref l6, q_junk] [] h = q_rcv h (.ref l0) 10 (some (.inl (some (.int (1 : Int32))), h1)) := by
  refine (q_cut_eq _ _ [0] 200 _ _ _ _).trans ?_
  show q_rcv h (.ref l0) 10 (q_rI (call 143 [.ref l0, .int l1, .int l2, .int l3, .int l4, .int l5] h) _ _) = _
  rw [hc]
  rfl
