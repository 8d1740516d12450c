theorem q_call_s {MT : List qM} {M : qM} {d mi : Nat} {as : List Value} {h : qH} (hm : MT[mi]? = some M) (hl : Nat.ble as.length M.2.2.2.1 = true) (hc : (as.all fun v => v.category == 1) = true) : q_call MT (d + 1) mi as h = q_run M (q_call MT d) 0 (as ++ List.replicate (M.2.2.2.1 - as.length) q_junk) [] h := by
  show (match MT[mi]? with
    | some M => if as.length ≤ M.2.2.2.1 ∧ (as.all fun v => v.category == 1) = true then q_run M (q_call MT d) 0 (as ++ List.replicate (M.2.2.2.1 - as.length) q_junk) [] h else none
    | none => none) = _
  rw [hm]
  exact if_pos ⟨Nat.le_of_ble_eq_true hl, hc⟩
set_option maxRecDepth 20000 in
theorem cl_X0_init (d : Nat) (l0 : Nat) (l1 : Nat) (l2 : Nat) (l3 : Nat) (h : qH) : q_call q_MT (d + 1) 0 [.ref l0, .ref l1, .ref l2, .ref l3] h = q_run qm_X0_init (q_call q_MT d) 0 [.ref l0, .ref l1, .ref l2, .ref l3] [] h := q_call_s (M := qm_X0_init) rfl rfl rfl
set_option maxRecDepth 20000 in
theorem cl_X0_cupHit (d : Nat) (l0 : Nat) (l1 : Int32) (l2 : Int32) (l3 : Int32) (h : qH) : q_call q_MT (d + 1) 1 [.ref l0, .int l1, .int l2, .int l3] h = q_run qm_X0_cupHit (q_call q_MT d) 0 [.ref l0, .int l1, .int l2, .int l3, q_junk] [] h := q_call_s (M := qm_X0_cupHit) rfl rfl rfl
set_option maxRecDepth 20000 in
theorem cl_X0_paidFor (d : Nat) (l0 : Nat) (l1 : Int32) (l2 : Int32) (l3 : Int32) (h : qH) : q_call q_MT (d + 1) 2 [.ref l0, .int l1, .int l2, .int l3] h = q_run qm_X0_paidFor (q_call q_MT d) 0 [.ref l0, .int l1, .int l2, .int l3, q_junk] [] h := q_call_s (M := qm_X0_paidFor) rfl rfl rfl
set_option maxRecDepth 20000 in
theorem cl_X0_seekGain (d : Nat) (l0 : Nat) (l1 : Int32) (h : qH) : q_call q_MT (d + 1) 3 [.ref l0, .int l1] h = q_run qm_X0_seekGain (q_call q_MT d) 0 [.ref l0, .int l1, q_junk] [] h := q_call_s (M := qm_X0_seekGain) rfl rfl rfl
set_option maxRecDepth 20000 in
theorem cl_X0_seekGainOf (d : Nat) (l0 : Nat) (l1 : Int32) (h : qH) : q_call q_MT (d + 1) 4 [.ref l0, .int l1] h = q_run qm_X0_seekGainOf (q_call q_MT d) 0 [.ref l0, .int l1, q_junk, q_junk, q_junk] [] h := q_call_s (M := qm_X0_seekGainOf) rfl rfl rfl
set_option maxRecDepth 20000 in
theorem cl_X0_seekWay (d : Nat) (l0 : Nat) (l1 : Int32) (h : qH) : q_call q_MT (d + 1) 5 [.ref l0, .int l1] h = q_run qm_X0_seekWay (q_call q_MT d) 0 [.ref l0, .int l1, q_junk] [] h := q_call_s (M := qm_X0_seekWay) rfl rfl rfl
set_option maxRecDepth 20000 in
theorem cl_X0_reach (d : Nat) (l0 : Nat) (l1 : Int32) (l2 : Int32) (l3 : Int32) (h : qH) : q_call q_MT (d + 1) 6 [.ref l0, .int l1, .int l2, .int l3] h = q_run qm_X0_reach (q_call q_MT d) 0 [.ref l0, .int l1, .int l2, .int l3] [] h := q_call_s (M := qm_X0_reach) rfl rfl rfl
set_option maxRecDepth 20000 in
theorem cl_X0_seekWayFrom (d : Nat) (l0 : Nat) (l1 : Int32) (l2 : Int32) (h : qH) : q_call q_MT (d + 1) 7 [.ref l0, .int l1, .int l2] h = q_run qm_X0_seekWayFrom (q_call q_MT d) 0 [.ref l0, .int l1, .int l2, q_junk, q_junk, q_junk, q_junk] [] h := q_call_s (M := qm_X0_seekWayFrom) rfl rfl rfl
set_option maxRecDepth 20000 in
theorem cl_X0_goOn (d : Nat) (l0 : Nat) (l1 : Int32) (l2 : Int32) (l3 : Int32) (h : qH) : q_call q_MT (d + 1) 8 [.ref l0, .int l1, .int l2, .int l3] h = q_run qm_X0_goOn (q_call q_MT d) 0 [.ref l0, .int l1, .int l2, .int l3] [] h := q_call_s (M := qm_X0_goOn) rfl rfl rfl
set_option maxRecDepth 20000 in
theorem cl_X0_weighThumb (d : Nat) (l0 : Nat) (l1 : Int32) (l2 : Int32) (l3 : Int32) (l4 : Int32) (h : qH) : q_call q_MT (d + 1) 9 [.ref l0, .int l1, .int l2, .int l3, .int l4] h = q_run qm_X0_weighThumb (q_call q_MT d) 0 [.ref l0, .int l1, .int l2, .int l3, .int l4, q_junk, q_junk] [] h := q_call_s (M := qm_X0_weighThumb) rfl rfl rfl
set_option maxRecDepth 20000 in
theorem cl_X0_worthOf (d : Nat) (l0 : Nat) (l1 : Int32) (l2 : Int32) (l3 : Int32) (h : qH) : q_call q_MT (d + 1) 10 [.ref l0, .int l1, .int l2, .int l3] h = q_run qm_X0_worthOf (q_call q_MT d) 0 [.ref l0, .int l1, .int l2, .int l3, q_junk] [] h := q_call_s (M := qm_X0_worthOf) rfl rfl rfl
set_option maxRecDepth 20000 in
theorem cl_X0_giveCups (d : Nat) (l0 : Nat) (h : qH) : q_call q_MT (d + 1) 11 [.ref l0] h = q_run qm_X0_giveCups (q_call q_MT d) 0 [.ref l0, q_junk, q_junk, q_junk, q_junk] [] h := q_call_s (M := qm_X0_giveCups) rfl rfl rfl
set_option maxRecDepth 20000 in
theorem cl_X0_findComers (d : Nat) (l0 : Nat) (h : qH) : q_call q_MT (d + 1) 12 [.ref l0] h = q_run qm_X0_findComers (q_call q_MT d) 0 [.ref l0, q_junk, q_junk, q_junk, q_junk] [] h := q_call_s (M := qm_X0_findComers) rfl rfl rfl
set_option maxRecDepth 20000 in
theorem cl_X0_firstFor (d : Nat) (l0 : Nat) (l1 : Int32) (l2 : Int32) (l3 : Int32) (h : qH) : q_call q_MT (d + 1) 13 [.ref l0, .int l1, .int l2, .int l3] h = q_run qm_X0_firstFor (q_call q_MT d) 0 [.ref l0, .int l1, .int l2, .int l3, q_junk, q_junk] [] h := q_call_s (M := qm_X0_firstFor) rfl rfl rfl
set_option maxRecDepth 20000 in
theorem cl_X0_bestFrom (d : Nat) (l0 : Nat) (l1 : Int32) (l2 : Int32) (h : qH) : q_call q_MT (d + 1) 14 [.ref l0, .int l1, .int l2] h = q_run qm_X0_bestFrom (q_call q_MT d) 0 [.ref l0, .int l1, .int l2, q_junk, q_junk, q_junk] [] h := q_call_s (M := qm_X0_bestFrom) rfl rfl rfl
set_option maxRecDepth 20000 in
theorem cl_X0_paysOf (d : Nat) (l0 : Nat) (l1 : Int32) (h : qH) : q_call q_MT (d + 1) 15 [.ref l0, .int l1] h = q_run qm_X0_paysOf (q_call q_MT d) 0 [.ref l0, .int l1, q_junk, q_junk] [] h := q_call_s (M := qm_X0_paysOf) rfl rfl rfl
set_option maxRecDepth 20000 in
theorem cl_X0_canAllBeGiven (d : Nat) (l0 : Nat) (l1 : Int32) (l2 : Int32) (h : qH) : q_call q_MT (d + 1) 16 [.ref l0, .int l1, .int l2] h = q_run qm_X0_canAllBeGiven (q_call q_MT d) 0 [.ref l0, .int l1, .int l2, q_junk] [] h := q_call_s (M := qm_X0_canAllBeGiven) rfl rfl rfl
set_option maxRecDepth 20000 in
theorem cl_X0_comersOf (d : Nat) (l0 : Nat) (l1 : Int32) (h : qH) : q_call q_MT (d + 1) 17 [.ref l0, .int l1] h = q_run qm_X0_comersOf (q_call q_MT d) 0 [.ref l0, .int l1, q_junk, q_junk] [] h := q_call_s (M := qm_X0_comersOf) rfl rfl rfl
set_option maxRecDepth 20000 in
theorem cl_X1_init (d : Nat) (l0 : Nat) (l1 : Nat) (l2 : Nat) (h : qH) : q_call q_MT (d + 1) 18 [.ref l0, .ref l1, .ref l2] h = q_run qm_X1_init (q_call q_MT d) 0 [.ref l0, .ref l1, .ref l2] [] h := q_call_s (M := qm_X1_init) rfl rfl rfl
set_option maxRecDepth 20000 in
theorem cl_X1_begin (d : Nat) (l0 : Nat) (h : qH) : q_call q_MT (d + 1) 19 [.ref l0] h = q_run qm_X1_begin (q_call q_MT d) 0 [.ref l0, q_junk] [] h := q_call_s (M := qm_X1_begin) rfl rfl rfl
set_option maxRecDepth 20000 in
theorem cl_X1_save (d : Nat) (l0 : Nat) (l1 : Nat) (h : qH) : q_call q_MT (d + 1) 20 [.ref l0, .ref l1] h = q_run qm_X1_save (q_call q_MT d) 0 [.ref l0, .ref l1] [] h := q_call_s (M := qm_X1_save) rfl rfl rfl
set_option maxRecDepth 20000 in
theorem cl_X1_load (d : Nat) (l0 : Nat) (l1 : Nat) (h : qH) : q_call q_MT (d + 1) 21 [.ref l0, .ref l1] h = q_run qm_X1_load (q_call q_MT d) 0 [.ref l0, .ref l1, q_junk] [] h := q_call_s (M := qm_X1_load) rfl rfl rfl
set_option maxRecDepth 20000 in
theorem cl_X1_isOnFelt (d : Nat) (l0 : Nat) (l1 : Int32) (h : qH) : q_call q_MT (d + 1) 22 [.ref l0, .int l1] h = q_run qm_X1_isOnFelt (q_call q_MT d) 0 [.ref l0, .int l1] [] h := q_call_s (M := qm_X1_isOnFelt) rfl rfl rfl
set_option maxRecDepth 20000 in
theorem cl_X1_onTopOf (d : Nat) (l0 : Nat) (l1 : Int32) (h : qH) : q_call q_MT (d + 1) 23 [.ref l0, .int l1] h = q_run qm_X1_onTopOf (q_call q_MT d) 0 [.ref l0, .int l1, q_junk] [] h := q_call_s (M := qm_X1_onTopOf) rfl rfl rfl
set_option maxRecDepth 20000 in
theorem cl_X1_isFree (d : Nat) (l0 : Nat) (l1 : Int32) (h : qH) : q_call q_MT (d + 1) 24 [.ref l0, .int l1] h = q_run qm_X1_isFree (q_call q_MT d) 0 [.ref l0, .int l1] [] h := q_call_s (M := qm_X1_isFree) rfl rfl rfl
set_option maxRecDepth 20000 in
theorem cl_X1_isFrozen (d : Nat) (l0 : Nat) (l1 : Int32) (h : qH) : q_call q_MT (d + 1) 25 [.ref l0, .int l1] h = q_run qm_X1_isFrozen (q_call q_MT d) 0 [.ref l0, .int l1] [] h := q_call_s (M := qm_X1_isFrozen) rfl rfl rfl
set_option maxRecDepth 20000 in
theorem cl_X1_freeBits (d : Nat) (l0 : Nat) (h : qH) : q_call q_MT (d + 1) 26 [.ref l0] h = q_run qm_X1_freeBits (q_call q_MT d) 0 [.ref l0, q_junk, q_junk] [] h := q_call_s (M := qm_X1_freeBits) rfl rfl rfl
set_option maxRecDepth 20000 in
theorem cl_X1_frozenBits (d : Nat) (l0 : Nat) (h : qH) : q_call q_MT (d + 1) 27 [.ref l0] h = q_run qm_X1_frozenBits (q_call q_MT d) 0 [.ref l0, q_junk, q_junk] [] h := q_call_s (M := qm_X1_frozenBits) rfl rfl rfl
set_option maxRecDepth 20000 in
theorem cl_X1_inCupBits (d : Nat) (l0 : Nat) (h : qH) : q_call q_MT (d + 1) 28 [.ref l0] h = q_run qm_X1_inCupBits (q_call q_MT d) 0 [.ref l0, q_junk, q_junk] [] h := q_call_s (M := qm_X1_inCupBits) rfl rfl rfl
set_option maxRecDepth 20000 in
theorem cl_X1_floorBits (d : Nat) (l0 : Nat) (h : qH) : q_call q_MT (d + 1) 29 [.ref l0] h = q_run qm_X1_floorBits (q_call q_MT d) 0 [.ref l0, q_junk, q_junk] [] h := q_call_s (M := qm_X1_floorBits) rfl rfl rfl
set_option maxRecDepth 20000 in
theorem cl_X1_howManyIn (d : Nat) (l0 : Nat) (l1 : Int32) (h : qH) : q_call q_MT (d + 1) 30 [.ref l0, .int l1] h = q_run qm_X1_howManyIn (q_call q_MT d) 0 [.ref l0, .int l1, q_junk, q_junk] [] h := q_call_s (M := qm_X1_howManyIn) rfl rfl rfl
set_option maxRecDepth 20000 in
theorem cl_X1_lyingAt (d : Nat) (l0 : Nat) (l1 : Int32) (l2 : Int32) (h : qH) : q_call q_MT (d + 1) 31 [.ref l0, .int l1, .int l2] h = q_run qm_X1_lyingAt (q_call q_MT d) 0 [.ref l0, .int l1, .int l2, q_junk] [] h := q_call_s (M := qm_X1_lyingAt) rfl rfl rfl
set_option maxRecDepth 20000 in
theorem cl_X1_givenWithin (d : Nat) (l0 : Nat) (l1 : Int32) (h : qH) : q_call q_MT (d + 1) 32 [.ref l0, .int l1] h = q_run qm_X1_givenWithin (q_call q_MT d) 0 [.ref l0, .int l1, q_junk, q_junk] [] h := q_call_s (M := qm_X1_givenWithin) rfl rfl rfl
set_option maxRecDepth 20000 in
theorem cl_X1_showLaw (d : Nat) (l0 : Nat) (l1 : Int32) (h : qH) : q_call q_MT (d + 1) 33 [.ref l0, .int l1] h = q_run qm_X1_showLaw (q_call q_MT d) 0 [.ref l0, .int l1] [] h := q_call_s (M := qm_X1_showLaw) rfl rfl rfl
set_option maxRecDepth 20000 in
theorem cl_X1_flight (d : Nat) (l0 : Nat) (l1 : Int32) (l2 : Int32) (h : qH) : q_call q_MT (d + 1) 34 [.ref l0, .int l1, .int l2] h = q_run qm_X1_flight (q_call q_MT d) 0 [.ref l0, .int l1, .int l2] [] h := q_call_s (M := qm_X1_flight) rfl rfl rfl
set_option maxRecDepth 20000 in
theorem cl_X1_landing (d : Nat) (l0 : Nat) (l1 : Int32) (l2 : Int32) (l3 : Int32) (h : qH) : q_call q_MT (d + 1) 35 [.ref l0, .int l1, .int l2, .int l3] h = q_run qm_X1_landing (q_call q_MT d) 0 [.ref l0, .int l1, .int l2, .int l3, q_junk, q_junk] [] h := q_call_s (M := qm_X1_landing) rfl rfl rfl
set_option maxRecDepth 20000 in
theorem cl_X1_fly (d : Nat) (l0 : Nat) (l1 : Int32) (l2 : Int32) (h : qH) : q_call q_MT (d + 1) 36 [.ref l0, .int l1, .int l2] h = q_run qm_X1_fly (q_call q_MT d) 0 [.ref l0, .int l1, .int l2, q_junk, q_junk] [] h := q_call_s (M := qm_X1_fly) rfl rfl rfl
set_option maxRecDepth 20000 in
theorem cl_X1_lift (d : Nat) (l0 : Nat) (l1 : Int32) (h : qH) : q_call q_MT (d + 1) 37 [.ref l0, .int l1] h = q_run qm_X1_lift (q_call q_MT d) 0 [.ref l0, .int l1, q_junk, q_junk] [] h := q_call_s (M := qm_X1_lift) rfl rfl rfl
set_option maxRecDepth 20000 in
theorem cl_X1_layOnTop (d : Nat) (l0 : Nat) (l1 : Int32) (l2 : Int32) (h : qH) : q_call q_MT (d + 1) 38 [.ref l0, .int l1, .int l2] h = q_run qm_X1_layOnTop (q_call q_MT d) 0 [.ref l0, .int l1, .int l2] [] h := q_call_s (M := qm_X1_layOnTop) rfl rfl rfl
set_option maxRecDepth 20000 in
theorem cl_X1_flick (d : Nat) (l0 : Nat) (l1 : Int32) (l2 : Int32) (l3 : Int32) (h : qH) : q_call q_MT (d + 1) 39 [.ref l0, .int l1, .int l2, .int l3] h = q_run qm_X1_flick (q_call q_MT d) 0 [.ref l0, .int l1, .int l2, .int l3, q_junk, q_junk, q_junk] [] h := q_call_s (M := qm_X1_flick) rfl rfl rfl
set_option maxRecDepth 20000 in
theorem cl_X1_dampen (d : Nat) (l0 : Nat) (l1 : Int32) (h : qH) : q_call q_MT (d + 1) 40 [.ref l0, .int l1] h = q_run qm_X1_dampen (q_call q_MT d) 0 [.ref l0, .int l1, q_junk] [] h := q_call_s (M := qm_X1_dampen) rfl rfl rfl
set_option maxRecDepth 20000 in
theorem cl_X1_shakeAll (d : Nat) (l0 : Nat) (h : qH) : q_call q_MT (d + 1) 41 [.ref l0] h = q_run qm_X1_shakeAll (q_call q_MT d) 0 [.ref l0, q_junk, q_junk] [] h := q_call_s (M := qm_X1_shakeAll) rfl rfl rfl
set_option maxRecDepth 20000 in
theorem cl_X1_endDay (d : Nat) (l0 : Nat) (h : qH) : q_call q_MT (d + 1) 42 [.ref l0] h = q_run qm_X1_endDay (q_call q_MT d) 0 [.ref l0] [] h := q_call_s (M := qm_X1_endDay) rfl rfl rfl
set_option maxRecDepth 20000 in
theorem cl_X1_passDay (d : Nat) (l0 : Nat) (h : qH) : q_call q_MT (d + 1) 43 [.ref l0] h = q_run qm_X1_passDay (q_call q_MT d) 0 [.ref l0, q_junk] [] h := q_call_s (M := qm_X1_passDay) rfl rfl rfl
set_option maxRecDepth 20000 in
theorem cl_X1_payRent (d : Nat) (l0 : Nat) (l1 : Int32) (h : qH) : q_call q_MT (d + 1) 44 [.ref l0, .int l1] h = q_run qm_X1_payRent (q_call q_MT d) 0 [.ref l0, .int l1, q_junk, q_junk, q_junk] [] h := q_call_s (M := qm_X1_payRent) rfl rfl rfl
set_option maxRecDepth 20000 in
theorem cl_X2_init (d : Nat) (l0 : Nat) (l1 : Nat) (l2 : Nat) (h : qH) : q_call q_MT (d + 1) 45 [.ref l0, .ref l1, .ref l2] h = q_run qm_X2_init (q_call q_MT d) 0 [.ref l0, .ref l1, .ref l2] [] h := q_call_s (M := qm_X2_init) rfl rfl rfl
set_option maxRecDepth 20000 in
theorem cl_X2_wipe (d : Nat) (l0 : Nat) (h : qH) : q_call q_MT (d + 1) 46 [.ref l0] h = q_run qm_X2_wipe (q_call q_MT d) 0 [.ref l0, q_junk] [] h := q_call_s (M := qm_X2_wipe) rfl rfl rfl
set_option maxRecDepth 20000 in
theorem cl_X2_readFrom (d : Nat) (l0 : Nat) (l1 : Nat) (h : qH) : q_call q_MT (d + 1) 47 [.ref l0, .ref l1] h = q_run qm_X2_readFrom (q_call q_MT d) 0 [.ref l0, .ref l1, q_junk, q_junk] [] h := q_call_s (M := qm_X2_readFrom) rfl rfl rfl
set_option maxRecDepth 20000 in
theorem cl_X2_readLine (d : Nat) (l0 : Nat) (l1 : Nat) (h : qH) : q_call q_MT (d + 1) 48 [.ref l0, .ref l1] h = q_run qm_X2_readLine (q_call q_MT d) 0 [.ref l0, .ref l1, q_junk] [] h := q_call_s (M := qm_X2_readLine) rfl rfl rfl
set_option maxRecDepth 20000 in
theorem cl_X2_seekPairs (d : Nat) (l0 : Nat) (l1 : Int32) (h : qH) : q_call q_MT (d + 1) 49 [.ref l0, .int l1] h = q_run qm_X2_seekPairs (q_call q_MT d) 0 [.ref l0, .int l1, q_junk] [] h := q_call_s (M := qm_X2_seekPairs) rfl rfl rfl
set_option maxRecDepth 20000 in
theorem cl_X2_isFitting (d : Nat) (l0 : Nat) (l1 : Int32) (l2 : Int32) (h : qH) : q_call q_MT (d + 1) 50 [.ref l0, .int l1, .int l2] h = q_run qm_X2_isFitting (q_call q_MT d) 0 [.ref l0, .int l1, .int l2, q_junk] [] h := q_call_s (M := qm_X2_isFitting) rfl rfl rfl
set_option maxRecDepth 20000 in
theorem cl_X2_flightAsIf (d : Nat) (l0 : Nat) (l1 : Int32) (l2 : Int32) (l3 : Int32) (h : qH) : q_call q_MT (d + 1) 51 [.ref l0, .int l1, .int l2, .int l3] h = q_run qm_X2_flightAsIf (q_call q_MT d) 0 [.ref l0, .int l1, .int l2, .int l3] [] h := q_call_s (M := qm_X2_flightAsIf) rfl rfl rfl
set_option maxRecDepth 20000 in
theorem cl_X2_seekPress (d : Nat) (l0 : Nat) (l1 : Int32) (h : qH) : q_call q_MT (d + 1) 52 [.ref l0, .int l1] h = q_run qm_X2_seekPress (q_call q_MT d) 0 [.ref l0, .int l1, q_junk, q_junk] [] h := q_call_s (M := qm_X2_seekPress) rfl rfl rfl
set_option maxRecDepth 20000 in
theorem cl_X2_worstLeft (d : Nat) (l0 : Nat) (l1 : Int32) (l2 : Int32) (h : qH) : q_call q_MT (d + 1) 53 [.ref l0, .int l1, .int l2] h = q_run qm_X2_worstLeft (q_call q_MT d) 0 [.ref l0, .int l1, .int l2, q_junk, q_junk, q_junk] [] h := q_call_s (M := qm_X2_worstLeft) rfl rfl rfl
set_option maxRecDepth 20000 in
theorem cl_X3_init (d : Nat) (l0 : Nat) (l1 : Nat) (l2 : Nat) (h : qH) : q_call q_MT (d + 1) 54 [.ref l0, .ref l1, .ref l2] h = q_run qm_X3_init (q_call q_MT d) 0 [.ref l0, .ref l1, .ref l2] [] h := q_call_s (M := qm_X3_init) rfl rfl rfl
set_option maxRecDepth 20000 in
theorem cl_X3_fight (d : Nat) (l0 : Nat) (l1 : Int32) (l2 : Int32) (h : qH) : q_call q_MT (d + 1) 55 [.ref l0, .int l1, .int l2] h = q_run qm_X3_fight (q_call q_MT d) 0 [.ref l0, .int l1, .int l2, q_junk, q_junk] [] h := q_call_s (M := qm_X3_fight) rfl rfl rfl
set_option maxRecDepth 20000 in
theorem cl_X3_measure (d : Nat) (l0 : Nat) (l1 : Int32) (l2 : Nat) (l3 : Nat) (h : qH) : q_call q_MT (d + 1) 56 [.ref l0, .int l1, .ref l2, .ref l3] h = q_run qm_X3_measure (q_call q_MT d) 0 [.ref l0, .int l1, .ref l2, .ref l3, q_junk, q_junk, q_junk] [] h := q_call_s (M := qm_X3_measure) rfl rfl rfl
set_option maxRecDepth 20000 in
theorem cl_X3_note (d : Nat) (l0 : Nat) (l1 : Int32) (l2 : Int32) (h : qH) : q_call q_MT (d + 1) 57 [.ref l0, .int l1, .int l2] h = q_run qm_X3_note (q_call q_MT d) 0 [.ref l0, .int l1, .int l2] [] h := q_call_s (M := qm_X3_note) rfl rfl rfl
set_option maxRecDepth 20000 in
theorem cl_X3_isRest (d : Nat) (l0 : Nat) (l1 : Int32) (l2 : Int32) (h : qH) : q_call q_MT (d + 1) 58 [.ref l0, .int l1, .int l2] h = q_run qm_X3_isRest (q_call q_MT d) 0 [.ref l0, .int l1, .int l2, q_junk, q_junk, q_junk] [] h := q_call_s (M := qm_X3_isRest) rfl rfl rfl
set_option maxRecDepth 20000 in
theorem cl_X3_oneHas (d : Nat) (l0 : Nat) (l1 : Int32) (l2 : Int32) (h : qH) : q_call q_MT (d + 1) 59 [.ref l0, .int l1, .int l2] h = q_run qm_X3_oneHas (q_call q_MT d) 0 [.ref l0, .int l1, .int l2] [] h := q_call_s (M := qm_X3_oneHas) rfl rfl rfl
set_option maxRecDepth 20000 in
theorem cl_X3_otherHas (d : Nat) (l0 : Nat) (l1 : Int32) (l2 : Int32) (h : qH) : q_call q_MT (d + 1) 60 [.ref l0, .int l1, .int l2] h = q_run qm_X3_otherHas (q_call q_MT d) 0 [.ref l0, .int l1, .int l2] [] h := q_call_s (M := qm_X3_otherHas) rfl rfl rfl
set_option maxRecDepth 20000 in
theorem cl_X3_clash (d : Nat) (l0 : Nat) (l1 : Int32) (l2 : Int32) (h : qH) : q_call q_MT (d + 1) 61 [.ref l0, .int l1, .int l2] h = q_run qm_X3_clash (q_call q_MT d) 0 [.ref l0, .int l1, .int l2, q_junk] [] h := q_call_s (M := qm_X3_clash) rfl rfl rfl
set_option maxRecDepth 20000 in
theorem cl_X5_init (d : Nat) (l0 : Nat) (h : qH) : q_call q_MT (d + 1) 63 [.ref l0] h = q_run qm_X5_init (q_call q_MT d) 0 [.ref l0] [] h := q_call_s (M := qm_X5_init) rfl rfl rfl
set_option maxRecDepth 20000 in
theorem cl_X5_setPlain (d : Nat) (l0 : Nat) (h : qH) : q_call q_MT (d + 1) 64 [.ref l0] h = q_run qm_X5_setPlain (q_call q_MT d) 0 [.ref l0] [] h := q_call_s (M := qm_X5_setPlain) rfl rfl rfl
set_option maxRecDepth 20000 in
theorem cl_X5_readFrom (d : Nat) (l0 : Nat) (l1 : Nat) (h : qH) : q_call q_MT (d + 1) 65 [.ref l0, .ref l1] h = q_run qm_X5_readFrom (q_call q_MT d) 0 [.ref l0, .ref l1] [] h := q_call_s (M := qm_X5_readFrom) rfl rfl rfl
set_option maxRecDepth 20000 in
theorem cl_X5_readSum (d : Nat) (l0 : Nat) (l1 : Nat) (l2 : Int32) (h : qH) : q_call q_MT (d + 1) 66 [.ref l0, .ref l1, .int l2] h = q_run qm_X5_readSum (q_call q_MT d) 0 [.ref l0, .ref l1, .int l2, q_junk, q_junk] [] h := q_call_s (M := qm_X5_readSum) rfl rfl rfl
set_option maxRecDepth 20000 in
theorem cl_X5_readProduct (d : Nat) (l0 : Nat) (l1 : Nat) (l2 : Int32) (h : qH) : q_call q_MT (d + 1) 67 [.ref l0, .ref l1, .int l2] h = q_run qm_X5_readProduct (q_call q_MT d) 0 [.ref l0, .ref l1, .int l2, q_junk, q_junk] [] h := q_call_s (M := qm_X5_readProduct) rfl rfl rfl
set_option maxRecDepth 20000 in
theorem cl_X5_readUnit (d : Nat) (l0 : Nat) (l1 : Nat) (l2 : Int32) (h : qH) : q_call q_MT (d + 1) 68 [.ref l0, .ref l1, .int l2] h = q_run qm_X5_readUnit (q_call q_MT d) 0 [.ref l0, .ref l1, .int l2, q_junk, q_junk] [] h := q_call_s (M := qm_X5_readUnit) rfl rfl rfl
set_option maxRecDepth 20000 in
theorem cl_X5_readPair (d : Nat) (l0 : Nat) (l1 : Nat) (l2 : Int32) (h : qH) : q_call q_MT (d + 1) 69 [.ref l0, .ref l1, .int l2] h = q_run qm_X5_readPair (q_call q_MT d) 0 [.ref l0, .ref l1, .int l2] [] h := q_call_s (M := qm_X5_readPair) rfl rfl rfl
set_option maxRecDepth 20000 in
theorem cl_X5_whichSeen (d : Nat) (l0 : Nat) (h : qH) : q_call q_MT (d + 1) 70 [.ref l0] h = q_run qm_X5_whichSeen (q_call q_MT d) 0 [.ref l0] [] h := q_call_s (M := qm_X5_whichSeen) rfl rfl rfl
set_option maxRecDepth 20000 in
theorem cl_X5_emit (d : Nat) (l0 : Nat) (l1 : Int32) (h : qH) : q_call q_MT (d + 1) 71 [.ref l0, .int l1] h = q_run qm_X5_emit (q_call q_MT d) 0 [.ref l0, .int l1] [] h := q_call_s (M := qm_X5_emit) rfl rfl rfl
set_option maxRecDepth 20000 in
theorem cl_X5_flightBy (d : Nat) (l0 : Nat) (l1 : Int32) (h : qH) : q_call q_MT (d + 1) 72 [.ref l0, .int l1] h = q_run qm_X5_flightBy (q_call q_MT d) 0 [.ref l0, .int l1, q_junk, q_junk, q_junk] [] h := q_call_s (M := qm_X5_flightBy) rfl rfl rfl
set_option maxRecDepth 20000 in
theorem cl_X5_worked (d : Nat) (l0 : Int32) (l1 : Int32) (l2 : Int32) (h : qH) : q_call q_MT (d + 1) 73 [.int l0, .int l1, .int l2] h = q_run qm_X5_worked (q_call q_MT d) 0 [.int l0, .int l1, .int l2] [] h := q_call_s (M := qm_X5_worked) rfl rfl rfl
set_option maxRecDepth 20000 in
theorem cl_X6_init (d : Nat) (l0 : Nat) (h : qH) : q_call q_MT (d + 1) 74 [.ref l0] h = q_run qm_X6_init (q_call q_MT d) 0 [.ref l0] [] h := q_call_s (M := qm_X6_init) rfl rfl rfl
set_option maxRecDepth 20000 in
theorem cl_X6_clear (d : Nat) (l0 : Nat) (h : qH) : q_call q_MT (d + 1) 75 [.ref l0] h = q_run qm_X6_clear (q_call q_MT d) 0 [.ref l0] [] h := q_call_s (M := qm_X6_clear) rfl rfl rfl
set_option maxRecDepth 20000 in
theorem cl_X6_copyFrom (d : Nat) (l0 : Nat) (l1 : Nat) (h : qH) : q_call q_MT (d + 1) 76 [.ref l0, .ref l1] h = q_run qm_X6_copyFrom (q_call q_MT d) 0 [.ref l0, .ref l1] [] h := q_call_s (M := qm_X6_copyFrom) rfl rfl rfl
set_option maxRecDepth 20000 in
theorem cl_X6_winksOf (d : Nat) (l0 : Nat) (l1 : Int32) (h : qH) : q_call q_MT (d + 1) 77 [.ref l0, .int l1] h = q_run qm_X6_winksOf (q_call q_MT d) 0 [.ref l0, .int l1, q_junk, q_junk] [] h := q_call_s (M := qm_X6_winksOf) rfl rfl rfl
set_option maxRecDepth 20000 in
theorem cl_X6_cupAt (d : Nat) (l0 : Nat) (l1 : Int32) (h : qH) : q_call q_MT (d + 1) 78 [.ref l0, .int l1] h = q_run qm_X6_cupAt (q_call q_MT d) 0 [.ref l0, .int l1, q_junk] [] h := q_call_s (M := qm_X6_cupAt) rfl rfl rfl
set_option maxRecDepth 20000 in
theorem cl_X6_readFrom (d : Nat) (l0 : Nat) (l1 : Nat) (h : qH) : q_call q_MT (d + 1) 79 [.ref l0, .ref l1] h = q_run qm_X6_readFrom (q_call q_MT d) 0 [.ref l0, .ref l1, q_junk] [] h := q_call_s (M := qm_X6_readFrom) rfl rfl rfl
set_option maxRecDepth 20000 in
theorem cl_X6_readClause (d : Nat) (l0 : Nat) (l1 : Nat) (l2 : Int32) (h : qH) : q_call q_MT (d + 1) 80 [.ref l0, .ref l1, .int l2] h = q_run qm_X6_readClause (q_call q_MT d) 0 [.ref l0, .ref l1, .int l2] [] h := q_call_s (M := qm_X6_readClause) rfl rfl rfl
set_option maxRecDepth 20000 in
theorem cl_X6_readHouse (d : Nat) (l0 : Nat) (l1 : Nat) (h : qH) : q_call q_MT (d + 1) 81 [.ref l0, .ref l1] h = q_run qm_X6_readHouse (q_call q_MT d) 0 [.ref l0, .ref l1] [] h := q_call_s (M := qm_X6_readHouse) rfl rfl rfl
set_option maxRecDepth 20000 in
theorem cl_X6_readFelt (d : Nat) (l0 : Nat) (l1 : Nat) (h : qH) : q_call q_MT (d + 1) 82 [.ref l0, .ref l1] h = q_run qm_X6_readFelt (q_call q_MT d) 0 [.ref l0, .ref l1] [] h := q_call_s (M := qm_X6_readFelt) rfl rfl rfl
set_option maxRecDepth 20000 in
theorem cl_X6_readNap (d : Nat) (l0 : Nat) (l1 : Nat) (h : qH) : q_call q_MT (d + 1) 83 [.ref l0, .ref l1] h = q_run qm_X6_readNap (q_call q_MT d) 0 [.ref l0, .ref l1] [] h := q_call_s (M := qm_X6_readNap) rfl rfl rfl
set_option maxRecDepth 20000 in
theorem cl_X6_readWink (d : Nat) (l0 : Nat) (l1 : Nat) (h : qH) : q_call q_MT (d + 1) 84 [.ref l0, .ref l1] h = q_run qm_X6_readWink (q_call q_MT d) 0 [.ref l0, .ref l1] [] h := q_call_s (M := qm_X6_readWink) rfl rfl rfl
set_option maxRecDepth 20000 in
theorem cl_X6_readCup (d : Nat) (l0 : Nat) (l1 : Nat) (h : qH) : q_call q_MT (d + 1) 85 [.ref l0, .ref l1] h = q_run qm_X6_readCup (q_call q_MT d) 0 [.ref l0, .ref l1] [] h := q_call_s (M := qm_X6_readCup) rfl rfl rfl
set_option maxRecDepth 20000 in
theorem cl_X6_allOnFelt (d : Nat) (l0 : Nat) (h : qH) : q_call q_MT (d + 1) 86 [.ref l0] h = q_run qm_X6_allOnFelt (q_call q_MT d) 0 [.ref l0, q_junk] [] h := q_call_s (M := qm_X6_allOnFelt) rfl rfl rfl
set_option maxRecDepth 20000 in
theorem cl_X7_init (d : Nat) (l0 : Nat) (l1 : Nat) (l2 : Nat) (h : qH) : q_call q_MT (d + 1) 87 [.ref l0, .ref l1, .ref l2] h = q_run qm_X7_init (q_call q_MT d) 0 [.ref l0, .ref l1, .ref l2] [] h := q_call_s (M := qm_X7_init) rfl rfl rfl
set_option maxRecDepth 20000 in
theorem cl_X7_run (d : Nat) (l0 : Nat) (l1 : Int32) (l2 : Int32) (l3 : Int32) (h : qH) : q_call q_MT (d + 1) 88 [.ref l0, .int l1, .int l2, .int l3] h = q_run qm_X7_run (q_call q_MT d) 0 [.ref l0, .int l1, .int l2, .int l3, q_junk, q_junk, q_junk, q_junk] [] h := q_call_s (M := qm_X7_run) rfl rfl rfl
set_option maxRecDepth 20000 in
theorem cl_X7_draw (d : Nat) (l0 : Nat) (l1 : Int32) (h : qH) : q_call q_MT (d + 1) 89 [.ref l0, .int l1] h = q_run qm_X7_draw (q_call q_MT d) 0 [.ref l0, .int l1] [] h := q_call_s (M := qm_X7_draw) rfl rfl rfl
set_option maxRecDepth 20000 in
theorem cl_X8_init (d : Nat) (l0 : Nat) (h : qH) : q_call q_MT (d + 1) 90 [.ref l0] h = q_run qm_X8_init (q_call q_MT d) 0 [.ref l0] [] h := q_call_s (M := qm_X8_init) rfl rfl rfl
set_option maxRecDepth 20000 in
theorem cl_X8_readFrom (d : Nat) (l0 : Nat) (l1 : Nat) (l2 : Int32) (h : qH) : q_call q_MT (d + 1) 91 [.ref l0, .ref l1, .int l2] h = q_run qm_X8_readFrom (q_call q_MT d) 0 [.ref l0, .ref l1, .int l2] [] h := q_call_s (M := qm_X8_readFrom) rfl rfl rfl
set_option maxRecDepth 20000 in
theorem cl_X8_readRow (d : Nat) (l0 : Nat) (l1 : Nat) (l2 : Int32) (h : qH) : q_call q_MT (d + 1) 92 [.ref l0, .ref l1, .int l2] h = q_run qm_X8_readRow (q_call q_MT d) 0 [.ref l0, .ref l1, .int l2, q_junk, q_junk] [] h := q_call_s (M := qm_X8_readRow) rfl rfl rfl
set_option maxRecDepth 20000 in
theorem cl_X8_readStep (d : Nat) (l0 : Nat) (l1 : Nat) (l2 : Int32) (h : qH) : q_call q_MT (d + 1) 93 [.ref l0, .ref l1, .int l2] h = q_run qm_X8_readStep (q_call q_MT d) 0 [.ref l0, .ref l1, .int l2] [] h := q_call_s (M := qm_X8_readStep) rfl rfl rfl
set_option maxRecDepth 20000 in
theorem cl_X8_readFlick (d : Nat) (l0 : Nat) (l1 : Nat) (l2 : Int32) (h : qH) : q_call q_MT (d + 1) 94 [.ref l0, .ref l1, .int l2] h = q_run qm_X8_readFlick (q_call q_MT d) 0 [.ref l0, .ref l1, .int l2, q_junk] [] h := q_call_s (M := qm_X8_readFlick) rfl rfl rfl
set_option maxRecDepth 20000 in
theorem cl_X8_readAgain (d : Nat) (l0 : Nat) (l1 : Nat) (l2 : Int32) (h : qH) : q_call q_MT (d + 1) 95 [.ref l0, .ref l1, .int l2] h = q_run qm_X8_readAgain (q_call q_MT d) 0 [.ref l0, .ref l1, .int l2, q_junk] [] h := q_call_s (M := qm_X8_readAgain) rfl rfl rfl
set_option maxRecDepth 20000 in
theorem cl_X8_add (d : Nat) (l0 : Nat) (l1 : Int32) (l2 : Int32) (l3 : Int32) (h : qH) : q_call q_MT (d + 1) 96 [.ref l0, .int l1, .int l2, .int l3] h = q_run qm_X8_add (q_call q_MT d) 0 [.ref l0, .int l1, .int l2, .int l3] [] h := q_call_s (M := qm_X8_add) rfl rfl rfl
set_option maxRecDepth 20000 in
theorem cl_X8_run (d : Nat) (l0 : Nat) (l1 : Nat) (h : qH) : q_call q_MT (d + 1) 97 [.ref l0, .ref l1] h = q_run qm_X8_run (q_call q_MT d) 0 [.ref l0, .ref l1] [] h := q_call_s (M := qm_X8_run) rfl rfl rfl
set_option maxRecDepth 20000 in
theorem cl_X8_runRow (d : Nat) (l0 : Nat) (l1 : Nat) (l2 : Int32) (l3 : Int32) (l4 : Int32) (h : qH) : q_call q_MT (d + 1) 98 [.ref l0, .ref l1, .int l2, .int l3, .int l4] h = q_run qm_X8_runRow (q_call q_MT d) 0 [.ref l0, .ref l1, .int l2, .int l3, .int l4, q_junk, q_junk] [] h := q_call_s (M := qm_X8_runRow) rfl rfl rfl
set_option maxRecDepth 20000 in
theorem cl_X8_isDone (d : Nat) (l0 : Nat) (l1 : Int32) (l2 : Int32) (l3 : Int32) (h : qH) : q_call q_MT (d + 1) 99 [.ref l0, .int l1, .int l2, .int l3] h = q_run qm_X8_isDone (q_call q_MT d) 0 [.ref l0, .int l1, .int l2, .int l3] [] h := q_call_s (M := qm_X8_isDone) rfl rfl rfl
set_option maxRecDepth 20000 in
theorem cl_X9_init (d : Nat) (l0 : Nat) (h : qH) : q_call q_MT (d + 1) 100 [.ref l0] h = q_run qm_X9_init (q_call q_MT d) 0 [.ref l0] [] h := q_call_s (M := qm_X9_init) rfl rfl rfl
set_option maxRecDepth 20000 in
theorem cl_X9_put (d : Nat) (l0 : Nat) (l1 : Int32) (h : qH) : q_call q_MT (d + 1) 101 [.ref l0, .int l1] h = q_run qm_X9_put (q_call q_MT d) 0 [.ref l0, .int l1, q_junk] [] h := q_call_s (M := qm_X9_put) rfl rfl rfl
set_option maxRecDepth 20000 in
theorem cl_X9_open (d : Nat) (l0 : Nat) (l1 : Int32) (h : qH) : q_call q_MT (d + 1) 102 [.ref l0, .int l1] h = q_run qm_X9_open (q_call q_MT d) 0 [.ref l0, .int l1] [] h := q_call_s (M := qm_X9_open) rfl rfl rfl
set_option maxRecDepth 20000 in
theorem cl_X9_answer (d : Nat) (l0 : Nat) (h : qH) : q_call q_MT (d + 1) 103 [.ref l0] h = q_run qm_X9_answer (q_call q_MT d) 0 [.ref l0] [] h := q_call_s (M := qm_X9_answer) rfl rfl rfl
set_option maxRecDepth 20000 in
theorem cl_X9_fail (d : Nat) (l0 : Nat) (l1 : Int32) (l2 : Int32) (h : qH) : q_call q_MT (d + 1) 104 [.ref l0, .int l1, .int l2] h = q_run qm_X9_fail (q_call q_MT d) 0 [.ref l0, .int l1, .int l2] [] h := q_call_s (M := qm_X9_fail) rfl rfl rfl
set_option maxRecDepth 20000 in
theorem cl_X9_peek (d : Nat) (l0 : Nat) (h : qH) : q_call q_MT (d + 1) 105 [.ref l0] h = q_run qm_X9_peek (q_call q_MT d) 0 [.ref l0] [] h := q_call_s (M := qm_X9_peek) rfl rfl rfl
set_option maxRecDepth 20000 in
theorem cl_X9_pass (d : Nat) (l0 : Nat) (h : qH) : q_call q_MT (d + 1) 106 [.ref l0] h = q_run qm_X9_pass (q_call q_MT d) 0 [.ref l0] [] h := q_call_s (M := qm_X9_pass) rfl rfl rfl
set_option maxRecDepth 20000 in
theorem cl_X9_sign (d : Nat) (l0 : Nat) (l1 : Int32) (h : qH) : q_call q_MT (d + 1) 107 [.ref l0, .int l1] h = q_run qm_X9_sign (q_call q_MT d) 0 [.ref l0, .int l1] [] h := q_call_s (M := qm_X9_sign) rfl rfl rfl
set_option maxRecDepth 20000 in
theorem cl_X9_number (d : Nat) (l0 : Nat) (l1 : Int32) (l2 : Int32) (h : qH) : q_call q_MT (d + 1) 108 [.ref l0, .int l1, .int l2] h = q_run qm_X9_number (q_call q_MT d) 0 [.ref l0, .int l1, .int l2, q_junk] [] h := q_call_s (M := qm_X9_number) rfl rfl rfl
set_option maxRecDepth 20000 in
theorem cl_X9_word (d : Nat) (l0 : Nat) (h : qH) : q_call q_MT (d + 1) 109 [.ref l0] h = q_run qm_X9_word (q_call q_MT d) 0 [.ref l0] [] h := q_call_s (M := qm_X9_word) rfl rfl rfl
set_option maxRecDepth 20000 in
theorem cl_X9_wordIs (d : Nat) (l0 : Nat) (l1 : UInt32) (h : qH) : q_call q_MT (d + 1) 110 [.ref l0, .float l1] h = q_run qm_X9_wordIs (q_call q_MT d) 0 [.ref l0, .float l1, q_junk, q_junk] [] h := q_call_s (M := qm_X9_wordIs) rfl rfl rfl
set_option maxRecDepth 20000 in
theorem cl_X9_allow (d : Nat) (l0 : Nat) (l1 : Int32) (h : qH) : q_call q_MT (d + 1) 111 [.ref l0, .int l1] h = q_run qm_X9_allow (q_call q_MT d) 0 [.ref l0, .int l1] [] h := q_call_s (M := qm_X9_allow) rfl rfl rfl
set_option maxRecDepth 20000 in
theorem cl_X10_init (d : Nat) (l0 : Nat) (h : qH) : q_call q_MT (d + 1) 112 [.ref l0] h = q_run qm_X10_init (q_call q_MT d) 0 [.ref l0] [] h := q_call_s (M := qm_X10_init) rfl rfl rfl
set_option maxRecDepth 20000 in
theorem cl_X10_feed (d : Nat) (l0 : Nat) (l1 : Int32) (l2 : Int32) (l3 : Int32) (l4 : Int32) (l5 : Int32) (h : qH) : q_call q_MT (d + 1) 113 [.ref l0, .int l1, .int l2, .int l3, .int l4, .int l5] h = q_run qm_X10_feed (q_call q_MT d) 0 [.ref l0, .int l1, .int l2, .int l3, .int l4, .int l5] [] h := q_call_s (M := qm_X10_feed) rfl rfl rfl
set_option maxRecDepth 20000 in
theorem cl_X10_room (d : Nat) (l0 : Nat) (l1 : Int32) (h : qH) : q_call q_MT (d + 1) 114 [.ref l0, .int l1] h = q_run qm_X10_room (q_call q_MT d) 0 [.ref l0, .int l1] [] h := q_call_s (M := qm_X10_room) rfl rfl rfl
set_option maxRecDepth 20000 in
theorem cl_X10_law (d : Nat) (l0 : Nat) (l1 : Int32) (h : qH) : q_call q_MT (d + 1) 115 [.ref l0, .int l1] h = q_run qm_X10_law (q_call q_MT d) 0 [.ref l0, .int l1] [] h := q_call_s (M := qm_X10_law) rfl rfl rfl
set_option maxRecDepth 20000 in
theorem cl_X10_play (d : Nat) (l0 : Nat) (l1 : Int32) (h : qH) : q_call q_MT (d + 1) 116 [.ref l0, .int l1] h = q_run qm_X10_play (q_call q_MT d) 0 [.ref l0, .int l1] [] h := q_call_s (M := qm_X10_play) rfl rfl rfl
set_option maxRecDepth 20000 in
theorem cl_X10_book (d : Nat) (l0 : Nat) (l1 : Int32) (h : qH) : q_call q_MT (d + 1) 117 [.ref l0, .int l1] h = q_run qm_X10_book (q_call q_MT d) 0 [.ref l0, .int l1] [] h := q_call_s (M := qm_X10_book) rfl rfl rfl
set_option maxRecDepth 20000 in
theorem cl_X10_fault (d : Nat) (l0 : Nat) (h : qH) : q_call q_MT (d + 1) 118 [.ref l0] h = q_run qm_X10_fault (q_call q_MT d) 0 [.ref l0] [] h := q_call_s (M := qm_X10_fault) rfl rfl rfl
set_option maxRecDepth 20000 in
theorem cl_X10_told (d : Nat) (l0 : Nat) (l1 : Int32) (h : qH) : q_call q_MT (d + 1) 119 [.ref l0, .int l1] h = q_run qm_X10_told (q_call q_MT d) 0 [.ref l0, .int l1] [] h := q_call_s (M := qm_X10_told) rfl rfl rfl
set_option maxRecDepth 20000 in
theorem cl_X10_house (d : Nat) (l0 : Nat) (l1 : Int32) (l2 : Int32) (h : qH) : q_call q_MT (d + 1) 120 [.ref l0, .int l1, .int l2] h = q_run qm_X10_house (q_call q_MT d) 0 [.ref l0, .int l1, .int l2, q_junk] [] h := q_call_s (M := qm_X10_house) rfl rfl rfl
set_option maxRecDepth 20000 in
theorem cl_X10_wink (d : Nat) (l0 : Nat) (l1 : Int32) (l2 : Int32) (h : qH) : q_call q_MT (d + 1) 121 [.ref l0, .int l1, .int l2] h = q_run qm_X10_wink (q_call q_MT d) 0 [.ref l0, .int l1, .int l2] [] h := q_call_s (M := qm_X10_wink) rfl rfl rfl
set_option maxRecDepth 20000 in
theorem cl_X10_cup (d : Nat) (l0 : Nat) (l1 : Int32) (l2 : Int32) (h : qH) : q_call q_MT (d + 1) 122 [.ref l0, .int l1, .int l2] h = q_run qm_X10_cup (q_call q_MT d) 0 [.ref l0, .int l1, .int l2] [] h := q_call_s (M := qm_X10_cup) rfl rfl rfl
set_option maxRecDepth 20000 in
theorem cl_X10_cell (d : Nat) (l0 : Nat) (l1 : Int32) (l2 : Int32) (h : qH) : q_call q_MT (d + 1) 123 [.ref l0, .int l1, .int l2] h = q_run qm_X10_cell (q_call q_MT d) 0 [.ref l0, .int l1, .int l2] [] h := q_call_s (M := qm_X10_cell) rfl rfl rfl
set_option maxRecDepth 20000 in
theorem cl_X10_trust (d : Nat) (l0 : Nat) (l1 : Int32) (h : qH) : q_call q_MT (d + 1) 124 [.ref l0, .int l1] h = q_run qm_X10_trust (q_call q_MT d) 0 [.ref l0, .int l1, q_junk, q_junk, q_junk] [] h := q_call_s (M := qm_X10_trust) rfl rfl rfl
set_option maxRecDepth 20000 in
theorem cl_X10_flies (d : Nat) (l0 : Nat) (l1 : Int32) (l2 : Int32) (h : qH) : q_call q_MT (d + 1) 125 [.ref l0, .int l1, .int l2] h = q_run qm_X10_flies (q_call q_MT d) 0 [.ref l0, .int l1, .int l2] [] h := q_call_s (M := qm_X10_flies) rfl rfl rfl
set_option maxRecDepth 20000 in
theorem cl_X10_would (d : Nat) (l0 : Nat) (l1 : Int32) (l2 : Int32) (l3 : Int32) (l4 : Int32) (l5 : Int32) (l6 : Int32) (l7 : Int32) (l8 : Int32) (l9 : Int32) (h : qH) : q_call q_MT (d + 1) 126 [.ref l0, .int l1, .int l2, .int l3, .int l4, .int l5, .int l6, .int l7, .int l8, .int l9] h = q_run qm_X10_would (q_call q_MT d) 0 [.ref l0, .int l1, .int l2, .int l3, .int l4, .int l5, .int l6, .int l7, .int l8, .int l9] [] h := q_call_s (M := qm_X10_would) rfl rfl rfl
set_option maxRecDepth 20000 in
theorem cl_X10_down (d : Nat) (l0 : Nat) (l1 : Int32) (l2 : Int32) (l3 : Int32) (h : qH) : q_call q_MT (d + 1) 127 [.ref l0, .int l1, .int l2, .int l3] h = q_run qm_X10_down (q_call q_MT d) 0 [.ref l0, .int l1, .int l2, .int l3] [] h := q_call_s (M := qm_X10_down) rfl rfl rfl
set_option maxRecDepth 20000 in
theorem cl_X10_presses (d : Nat) (l0 : Nat) (l1 : Int32) (l2 : Int32) (h : qH) : q_call q_MT (d + 1) 128 [.ref l0, .int l1, .int l2] h = q_run qm_X10_presses (q_call q_MT d) 0 [.ref l0, .int l1, .int l2, q_junk, q_junk] [] h := q_call_s (M := qm_X10_presses) rfl rfl rfl
set_option maxRecDepth 20000 in
theorem cl_X10_gain (d : Nat) (l0 : Nat) (l1 : Int32) (l2 : Int32) (h : qH) : q_call q_MT (d + 1) 129 [.ref l0, .int l1, .int l2] h = q_run qm_X10_gain (q_call q_MT d) 0 [.ref l0, .int l1, .int l2] [] h := q_call_s (M := qm_X10_gain) rfl rfl rfl
set_option maxRecDepth 20000 in
theorem cl_X10_way (d : Nat) (l0 : Nat) (l1 : Int32) (l2 : Int32) (h : qH) : q_call q_MT (d + 1) 130 [.ref l0, .int l1, .int l2] h = q_run qm_X10_way (q_call q_MT d) 0 [.ref l0, .int l1, .int l2] [] h := q_call_s (M := qm_X10_way) rfl rfl rfl
set_option maxRecDepth 20000 in
theorem cl_X10_odds (d : Nat) (l0 : Nat) (l1 : Int32) (l2 : Int32) (l3 : Int32) (l4 : Int32) (h : qH) : q_call q_MT (d + 1) 131 [.ref l0, .int l1, .int l2, .int l3, .int l4] h = q_run qm_X10_odds (q_call q_MT d) 0 [.ref l0, .int l1, .int l2, .int l3, .int l4] [] h := q_call_s (M := qm_X10_odds) rfl rfl rfl
set_option maxRecDepth 20000 in
theorem cl_X10_mean (d : Nat) (l0 : Nat) (l1 : Int32) (l2 : Int32) (l3 : Int32) (l4 : Int32) (h : qH) : q_call q_MT (d + 1) 132 [.ref l0, .int l1, .int l2, .int l3, .int l4] h = q_run qm_X10_mean (q_call q_MT d) 0 [.ref l0, .int l1, .int l2, .int l3, .int l4] [] h := q_call_s (M := qm_X10_mean) rfl rfl rfl
set_option maxRecDepth 20000 in
theorem cl_X10_match (d : Nat) (l0 : Nat) (h : qH) : q_call q_MT (d + 1) 133 [.ref l0] h = q_run qm_X10_match (q_call q_MT d) 0 [.ref l0] [] h := q_call_s (M := qm_X10_match) rfl rfl rfl
set_option maxRecDepth 20000 in
theorem cl_X10_matched (d : Nat) (l0 : Nat) (l1 : Int32) (h : qH) : q_call q_MT (d + 1) 134 [.ref l0, .int l1] h = q_run qm_X10_matched (q_call q_MT d) 0 [.ref l0, .int l1] [] h := q_call_s (M := qm_X10_matched) rfl rfl rfl
set_option maxRecDepth 20000 in
theorem cl_X10_fits (d : Nat) (l0 : Nat) (l1 : Int32) (l2 : Int32) (h : qH) : q_call q_MT (d + 1) 135 [.ref l0, .int l1, .int l2] h = q_run qm_X10_fits (q_call q_MT d) 0 [.ref l0, .int l1, .int l2] [] h := q_call_s (M := qm_X10_fits) rfl rfl rfl
set_option maxRecDepth 20000 in
theorem cl_X10_look (d : Nat) (l0 : Nat) (l1 : Int32) (l2 : Int32) (h : qH) : q_call q_MT (d + 1) 136 [.ref l0, .int l1, .int l2] h = q_run qm_X10_look (q_call q_MT d) 0 [.ref l0, .int l1, .int l2] [] h := q_call_s (M := qm_X10_look) rfl rfl rfl
set_option maxRecDepth 20000 in
theorem cl_X10_duel (d : Nat) (l0 : Nat) (l1 : Int32) (l2 : Int32) (l3 : Int32) (h : qH) : q_call q_MT (d + 1) 137 [.ref l0, .int l1, .int l2, .int l3] h = q_run qm_X10_duel (q_call q_MT d) 0 [.ref l0, .int l1, .int l2, .int l3] [] h := q_call_s (M := qm_X10_duel) rfl rfl rfl
set_option maxRecDepth 20000 in
theorem cl_X10_panic (d : Nat) (l0 : Nat) (l1 : Int32) (l2 : Int32) (h : qH) : q_call q_MT (d + 1) 138 [.ref l0, .int l1, .int l2] h = q_run qm_X10_panic (q_call q_MT d) 0 [.ref l0, .int l1, .int l2, q_junk, q_junk, q_junk, q_junk] [] h := q_call_s (M := qm_X10_panic) rfl rfl rfl
set_option maxRecDepth 20000 in
theorem cl_X10_level (d : Nat) (l0 : Nat) (l1 : Int32) (l2 : Int32) (h : qH) : q_call q_MT (d + 1) 139 [.ref l0, .int l1, .int l2] h = q_run qm_X10_level (q_call q_MT d) 0 [.ref l0, .int l1, .int l2, q_junk, q_junk] [] h := q_call_s (M := qm_X10_level) rfl rfl rfl
set_option maxRecDepth 20000 in
theorem cl_X10_richest (d : Nat) (l0 : Nat) (l1 : Int32) (h : qH) : q_call q_MT (d + 1) 140 [.ref l0, .int l1] h = q_run qm_X10_richest (q_call q_MT d) 0 [.ref l0, .int l1, q_junk, q_junk] [] h := q_call_s (M := qm_X10_richest) rfl rfl rfl
set_option maxRecDepth 20000 in
theorem cl_X10_ahead (d : Nat) (l0 : Nat) (l1 : Int32) (l2 : Int32) (h : qH) : q_call q_MT (d + 1) 141 [.ref l0, .int l1, .int l2] h = q_run qm_X10_ahead (q_call q_MT d) 0 [.ref l0, .int l1, .int l2, q_junk] [] h := q_call_s (M := qm_X10_ahead) rfl rfl rfl
set_option maxRecDepth 20000 in
theorem cl_X10_season (d : Nat) (l0 : Nat) (l1 : Int32) (l2 : Int32) (l3 : Int32) (l4 : Int32) (h : qH) : q_call q_MT (d + 1) 142 [.ref l0, .int l1, .int l2, .int l3, .int l4] h = q_run qm_X10_season (q_call q_MT d) 0 [.ref l0, .int l1, .int l2, .int l3, .int l4] [] h := q_call_s (M := qm_X10_season) rfl rfl rfl
set_option maxRecDepth 20000 in
theorem cl_X10_span (d : Nat) (l0 : Nat) (l1 : Int32) (l2 : Int32) (l3 : Int32) (l4 : Int32) (l5 : Int32) (h : qH) : q_call q_MT (d + 1) 143 [.ref l0, .int l1, .int l2, .int l3, .int l4, .int l5] h = q_run qm_X10_span (q_call q_MT d) 0 [.ref l0, .int l1, .int l2, .int l3, .int l4, .int l5, q_junk, q_junk, q_junk, q_junk, q_junk] [] h := q_call_s (M := qm_X10_span) rfl rfl rfl
set_option maxRecDepth 20000 in
theorem cl_X10_undo (d : Nat) (l0 : Nat) (h : qH) : q_call q_MT (d + 1) 144 [.ref l0] h = q_run qm_X10_undo (q_call q_MT d) 0 [.ref l0] [] h := q_call_s (M := qm_X10_undo) rfl rfl rfl
set_option maxRecDepth 20000 in
theorem cl_X10_image (d : Nat) (l0 : Nat) (h : qH) : q_call q_MT (d + 1) 145 [.ref l0] h = q_run qm_X10_image (q_call q_MT d) 0 [.ref l0] [] h := q_call_s (M := qm_X10_image) rfl rfl rfl
set_option maxRecDepth 20000 in
theorem cl_X10_restore (d : Nat) (l0 : Nat) (h : qH) : q_call q_MT (d + 1) 146 [.ref l0] h = q_run qm_X10_restore (q_call q_MT d) 0 [.ref l0, q_junk] [] h := q_call_s (M := qm_X10_restore) rfl rfl rfl
set_option maxRecDepth 20000 in
theorem cl_X10_status (d : Nat) (l0 : Nat) (l1 : Int32) (h : qH) : q_call q_MT (d + 1) 147 [.ref l0, .int l1] h = q_run qm_X10_status (q_call q_MT d) 0 [.ref l0, .int l1] [] h := q_call_s (M := qm_X10_status) rfl rfl rfl
set_option maxRecDepth 20000 in
theorem cl_X10_count (d : Nat) (l0 : Nat) (l1 : Int32) (h : qH) : q_call q_MT (d + 1) 148 [.ref l0, .int l1] h = q_run qm_X10_count (q_call q_MT d) 0 [.ref l0, .int l1] [] h := q_call_s (M := qm_X10_count) rfl rfl rfl
set_option maxRecDepth 20000 in
theorem cl_X10_playCount (d : Nat) (l0 : Nat) (h : qH) : q_call q_MT (d + 1) 149 [.ref l0] h = q_run qm_X10_playCount (q_call q_MT d) 0 [.ref l0] [] h := q_call_s (M := qm_X10_playCount) rfl rfl rfl
set_option maxRecDepth 20000 in
theorem cl_X10_keepNow (d : Nat) (l0 : Nat) (h : qH) : q_call q_MT (d + 1) 150 [.ref l0] h = q_run qm_X10_keepNow (q_call q_MT d) 0 [.ref l0, q_junk] [] h := q_call_s (M := qm_X10_keepNow) rfl rfl rfl
set_option maxRecDepth 20000 in
theorem cl_X10_goBackTo (d : Nat) (l0 : Nat) (l1 : Nat) (h : qH) : q_call q_MT (d + 1) 151 [.ref l0, .ref l1] h = q_run qm_X10_goBackTo (q_call q_MT d) 0 [.ref l0, .ref l1] [] h := q_call_s (M := qm_X10_goBackTo) rfl rfl rfl
set_option maxRecDepth 20000 in
theorem cl_X10_startTrial (d : Nat) (l0 : Nat) (h : qH) : q_call q_MT (d + 1) 152 [.ref l0] h = q_run qm_X10_startTrial (q_call q_MT d) 0 [.ref l0] [] h := q_call_s (M := qm_X10_startTrial) rfl rfl rfl
set_option maxRecDepth 20000 in
theorem cl_X10_openText (d : Nat) (l0 : Nat) (l1 : Int32) (l2 : Int32) (h : qH) : q_call q_MT (d + 1) 153 [.ref l0, .int l1, .int l2] h = q_run qm_X10_openText (q_call q_MT d) 0 [.ref l0, .int l1, .int l2] [] h := q_call_s (M := qm_X10_openText) rfl rfl rfl
set_option maxRecDepth 20000 in
theorem cl_X10_needThumb (d : Nat) (l0 : Nat) (l1 : Int32) (l2 : Int32) (l3 : Int32) (l4 : Int32) (h : qH) : q_call q_MT (d + 1) 154 [.ref l0, .int l1, .int l2, .int l3, .int l4] h = q_run qm_X10_needThumb (q_call q_MT d) 0 [.ref l0, .int l1, .int l2, .int l3, .int l4] [] h := q_call_s (M := qm_X10_needThumb) rfl rfl rfl
set_option maxRecDepth 20000 in
theorem cl_X10_needHouse (d : Nat) (l0 : Nat) (l1 : Int32) (h : qH) : q_call q_MT (d + 1) 155 [.ref l0, .int l1] h = q_run qm_X10_needHouse (q_call q_MT d) 0 [.ref l0, .int l1] [] h := q_call_s (M := qm_X10_needHouse) rfl rfl rfl
set_option maxRecDepth 20000 in
theorem cl_X10_needWink (d : Nat) (l0 : Nat) (l1 : Int32) (h : qH) : q_call q_MT (d + 1) 156 [.ref l0, .int l1] h = q_run qm_X10_needWink (q_call q_MT d) 0 [.ref l0, .int l1] [] h := q_call_s (M := qm_X10_needWink) rfl rfl rfl
set_option maxRecDepth 20000 in
theorem cl_X10_needCup (d : Nat) (l0 : Nat) (l1 : Int32) (h : qH) : q_call q_MT (d + 1) 157 [.ref l0, .int l1] h = q_run qm_X10_needCup (q_call q_MT d) 0 [.ref l0, .int l1] [] h := q_call_s (M := qm_X10_needCup) rfl rfl rfl
set_option maxRecDepth 20000 in
theorem cl_X10_needThere (d : Nat) (l0 : Nat) (l1 : Int32) (l2 : Int32) (h : qH) : q_call q_MT (d + 1) 158 [.ref l0, .int l1, .int l2] h = q_run qm_X10_needThere (q_call q_MT d) 0 [.ref l0, .int l1, .int l2] [] h := q_call_s (M := qm_X10_needThere) rfl rfl rfl
set_option maxRecDepth 20000 in
theorem cl_X10_needPress (d : Nat) (l0 : Nat) (l1 : Int32) (h : qH) : q_call q_MT (d + 1) 159 [.ref l0, .int l1] h = q_run qm_X10_needPress (q_call q_MT d) 0 [.ref l0, .int l1] [] h := q_call_s (M := qm_X10_needPress) rfl rfl rfl
set_option maxRecDepth 20000 in
theorem cl_X10_needWhat (d : Nat) (l0 : Nat) (l1 : Int32) (l2 : Int32) (h : qH) : q_call q_MT (d + 1) 160 [.ref l0, .int l1, .int l2] h = q_run qm_X10_needWhat (q_call q_MT d) 0 [.ref l0, .int l1, .int l2] [] h := q_call_s (M := qm_X10_needWhat) rfl rfl rfl
set_option maxRecDepth 20000 in
theorem cl_X10_needWithin (d : Nat) (l0 : Nat) (l1 : Int32) (l2 : Int32) (l3 : Int32) (h : qH) : q_call q_MT (d + 1) 161 [.ref l0, .int l1, .int l2, .int l3] h = q_run qm_X10_needWithin (q_call q_MT d) 0 [.ref l0, .int l1, .int l2, .int l3] [] h := q_call_s (M := qm_X10_needWithin) rfl rfl rfl
set_option maxRecDepth 20000 in
theorem cl_X10_need (d : Nat) (l0 : Nat) (l1 : Int32) (h : qH) : q_call q_MT (d + 1) 162 [.ref l0, .int l1] h = q_run qm_X10_need (q_call q_MT d) 0 [.ref l0, .int l1] [] h := q_call_s (M := qm_X10_need) rfl rfl rfl
set_option maxRecDepth 20000 in
theorem cl_X11_thrown (d : Nat) (l0 : Nat) (h : qH) : q_call q_MT (d + 1) 163 [.ref l0] h = q_run qm_X11_thrown (q_call q_MT d) 0 [.ref l0] [] h := q_call_s (M := qm_X11_thrown) rfl rfl rfl
set_option maxRecDepth 20000 in
theorem cl_X11_may (d : Nat) (l0 : Nat) (l1 : Int32) (l2 : Int32) (l3 : Int32) (h : qH) : q_call q_MT (d + 1) 164 [.ref l0, .int l1, .int l2, .int l3] h = q_run qm_X11_may (q_call q_MT d) 0 [.ref l0, .int l1, .int l2, .int l3] [] h := q_call_s (M := qm_X11_may) rfl rfl rfl
set_option maxRecDepth 20000 in
theorem cl_X11_within (d : Nat) (l0 : Int32) (l1 : Int32) (l2 : Int32) (h : qH) : q_call q_MT (d + 1) 165 [.int l0, .int l1, .int l2] h = q_run qm_X11_within (q_call q_MT d) 0 [.int l0, .int l1, .int l2] [] h := q_call_s (M := qm_X11_within) rfl rfl rfl
set_option maxRecDepth 20000 in
theorem cl_X11_init (d : Nat) (l0 : Nat) (h : qH) : q_call q_MT (d + 1) 166 [.ref l0] h = q_run qm_X11_init (q_call q_MT d) 0 [.ref l0] [] h := q_call_s (M := qm_X11_init) rfl rfl rfl
set_option maxRecDepth 20000 in
theorem cl_X11_feed (d : Nat) (l0 : Nat) (l1 : Int32) (l2 : Int32) (l3 : Int32) (l4 : Int32) (l5 : Int32) (h : qH) : q_call q_MT (d + 1) 167 [.ref l0, .int l1, .int l2, .int l3, .int l4, .int l5] h = q_run qm_X11_feed (q_call q_MT d) 0 [.ref l0, .int l1, .int l2, .int l3, .int l4, .int l5, q_junk, q_junk] [] h := q_call_s (M := qm_X11_feed) rfl rfl rfl
set_option maxRecDepth 20000 in
theorem cl_X11_fine (d : Nat) (l0 : Nat) (h : qH) : q_call q_MT (d + 1) 168 [.ref l0] h = q_run qm_X11_fine (q_call q_MT d) 0 [.ref l0] [] h := q_call_s (M := qm_X11_fine) rfl rfl rfl
set_option maxRecDepth 20000 in
theorem cl_X11_wrong (d : Nat) (l0 : Nat) (l1 : Int32) (l2 : Int32) (h : qH) : q_call q_MT (d + 1) 169 [.ref l0, .int l1, .int l2] h = q_run qm_X11_wrong (q_call q_MT d) 0 [.ref l0, .int l1, .int l2] [] h := q_call_s (M := qm_X11_wrong) rfl rfl rfl
set_option maxRecDepth 20000 in
theorem cl_X11_here (d : Nat) (l0 : Nat) (h : qH) : q_call q_MT (d + 1) 170 [.ref l0] h = q_run qm_X11_here (q_call q_MT d) 0 [.ref l0] [] h := q_call_s (M := qm_X11_here) rfl rfl rfl
set_option maxRecDepth 20000 in
theorem cl_X11_isSmall (d : Nat) (l0 : Int32) (h : qH) : q_call q_MT (d + 1) 171 [.int l0] h = q_run qm_X11_isSmall (q_call q_MT d) 0 [.int l0] [] h := q_call_s (M := qm_X11_isSmall) rfl rfl rfl
set_option maxRecDepth 20000 in
theorem cl_X11_isDigit (d : Nat) (l0 : Int32) (h : qH) : q_call q_MT (d + 1) 172 [.int l0] h = q_run qm_X11_isDigit (q_call q_MT d) 0 [.int l0] [] h := q_call_s (M := qm_X11_isDigit) rfl rfl rfl
set_option maxRecDepth 20000 in
theorem cl_X11_word (d : Nat) (l0 : Nat) (h : qH) : q_call q_MT (d + 1) 173 [.ref l0] h = q_run qm_X11_word (q_call q_MT d) 0 [.ref l0, q_junk, q_junk, q_junk] [] h := q_call_s (M := qm_X11_word) rfl rfl rfl
set_option maxRecDepth 20000 in
theorem cl_X11_of (d : Nat) (l0 : UInt32) (h : qH) : q_call q_MT (d + 1) 174 [.float l0] h = q_run qm_X11_of (q_call q_MT d) 0 [.float l0, q_junk, q_junk] [] h := q_call_s (M := qm_X11_of) rfl rfl rfl
set_option maxRecDepth 20000 in
theorem cl_X11_pass (d : Nat) (l0 : Nat) (h : qH) : q_call q_MT (d + 1) 175 [.ref l0] h = q_run qm_X11_pass (q_call q_MT d) 0 [.ref l0] [] h := q_call_s (M := qm_X11_pass) rfl rfl rfl
set_option maxRecDepth 20000 in
theorem cl_X11_readNumber (d : Nat) (l0 : Nat) (l1 : Int32) (l2 : Int32) (h : qH) : q_call q_MT (d + 1) 176 [.ref l0, .int l1, .int l2] h = q_run qm_X11_readNumber (q_call q_MT d) 0 [.ref l0, .int l1, .int l2, q_junk, q_junk, q_junk] [] h := q_call_s (M := qm_X11_readNumber) rfl rfl rfl
set_option maxRecDepth 20000 in
theorem cl_X11_sign (d : Nat) (l0 : Nat) (l1 : Int32) (h : qH) : q_call q_MT (d + 1) 177 [.ref l0, .int l1] h = q_run qm_X11_sign (q_call q_MT d) 0 [.ref l0, .int l1] [] h := q_call_s (M := qm_X11_sign) rfl rfl rfl
set_option maxRecDepth 20000 in
theorem cl_X11_isMore (d : Nat) (l0 : Nat) (h : qH) : q_call q_MT (d + 1) 178 [.ref l0] h = q_run qm_X11_isMore (q_call q_MT d) 0 [.ref l0] [] h := q_call_s (M := qm_X11_isMore) rfl rfl rfl
set_option maxRecDepth 20000 in
theorem cl_X11_begins (d : Nat) (l0 : Nat) (l1 : Int32) (h : qH) : q_call q_MT (d + 1) 179 [.ref l0, .int l1] h = q_run qm_X11_begins (q_call q_MT d) 0 [.ref l0, .int l1] [] h := q_call_s (M := qm_X11_begins) rfl rfl rfl
set_option maxRecDepth 20000 in
theorem cl_X11_result (d : Nat) (l0 : Nat) (l1 : Int32) (h : qH) : q_call q_MT (d + 1) 180 [.ref l0, .int l1] h = q_run qm_X11_result (q_call q_MT d) 0 [.ref l0, .int l1] [] h := q_call_s (M := qm_X11_result) rfl rfl rfl
set_option maxRecDepth 20000 in
theorem cl_X11_fault (d : Nat) (l0 : Nat) (h : qH) : q_call q_MT (d + 1) 181 [.ref l0] h = q_run qm_X11_fault (q_call q_MT d) 0 [.ref l0] [] h := q_call_s (M := qm_X11_fault) rfl rfl rfl
set_option maxRecDepth 20000 in
theorem cl_X11_copies (d : Nat) (l0 : Nat) (l1 : Nat) (l2 : Nat) (l3 : Int32) (h : qH) : q_call q_MT (d + 1) 182 [.ref l0, .ref l1, .ref l2, .int l3] h = q_run qm_X11_copies (q_call q_MT d) 0 [.ref l0, .ref l1, .ref l2, .int l3, q_junk] [] h := q_call_s (M := qm_X11_copies) rfl rfl rfl
set_option maxRecDepth 20000 in
theorem cl_X11_clears (d : Nat) (l0 : Nat) (h : qH) : q_call q_MT (d + 1) 183 [.ref l0] h = q_run qm_X11_clears (q_call q_MT d) 0 [.ref l0] [] h := q_call_s (M := qm_X11_clears) rfl rfl rfl
set_option maxRecDepth 20000 in
theorem cl_X11_sets (d : Nat) (l0 : Nat) (h : qH) : q_call q_MT (d + 1) 184 [.ref l0] h = q_run qm_X11_sets (q_call q_MT d) 0 [.ref l0, q_junk, q_junk] [] h := q_call_s (M := qm_X11_sets) rfl rfl rfl
set_option maxRecDepth 20000 in
theorem cl_X11_isRow (d : Nat) (l0 : Int32) (h : qH) : q_call q_MT (d + 1) 185 [.int l0] h = q_run qm_X11_isRow (q_call q_MT d) 0 [.int l0] [] h := q_call_s (M := qm_X11_isRow) rfl rfl rfl
set_option maxRecDepth 20000 in
theorem cl_X11_readCup (d : Nat) (l0 : Nat) (h : qH) : q_call q_MT (d + 1) 186 [.ref l0] h = q_run qm_X11_readCup (q_call q_MT d) 0 [.ref l0, q_junk, q_junk, q_junk] [] h := q_call_s (M := qm_X11_readCup) rfl rfl rfl
set_option maxRecDepth 20000 in
theorem cl_X11_readRow (d : Nat) (l0 : Nat) (l1 : Int32) (h : qH) : q_call q_MT (d + 1) 187 [.ref l0, .int l1] h = q_run qm_X11_readRow (q_call q_MT d) 0 [.ref l0, .int l1] [] h := q_call_s (M := qm_X11_readRow) rfl rfl rfl
set_option maxRecDepth 20000 in
theorem cl_X11_liesOnFelt (d : Nat) (l0 : Nat) (h : qH) : q_call q_MT (d + 1) 188 [.ref l0] h = q_run qm_X11_liesOnFelt (q_call q_MT d) 0 [.ref l0, q_junk] [] h := q_call_s (M := qm_X11_liesOnFelt) rfl rfl rfl
set_option maxRecDepth 20000 in
theorem cl_X11_room (d : Nat) (l0 : Nat) (l1 : Int32) (h : qH) : q_call q_MT (d + 1) 189 [.ref l0, .int l1] h = q_run qm_X11_room (q_call q_MT d) 0 [.ref l0, .int l1, q_junk, q_junk] [] h := q_call_s (M := qm_X11_room) rfl rfl rfl
set_option maxRecDepth 20000 in
theorem cl_X11_emit (d : Nat) (l0 : Nat) (l1 : Int32) (l2 : Int32) (h : qH) : q_call q_MT (d + 1) 190 [.ref l0, .int l1, .int l2] h = q_run qm_X11_emit (q_call q_MT d) 0 [.ref l0, .int l1, .int l2] [] h := q_call_s (M := qm_X11_emit) rfl rfl rfl
set_option maxRecDepth 20000 in
theorem cl_X11_opensOne (d : Nat) (l0 : Nat) (l1 : Int32) (h : qH) : q_call q_MT (d + 1) 191 [.ref l0, .int l1] h = q_run qm_X11_opensOne (q_call q_MT d) 0 [.ref l0, .int l1] [] h := q_call_s (M := qm_X11_opensOne) rfl rfl rfl
set_option maxRecDepth 20000 in
theorem cl_X11_readSum (d : Nat) (l0 : Nat) (h : qH) : q_call q_MT (d + 1) 192 [.ref l0] h = q_run qm_X11_readSum (q_call q_MT d) 0 [.ref l0, q_junk] [] h := q_call_s (M := qm_X11_readSum) rfl rfl rfl
set_option maxRecDepth 20000 in
theorem cl_X11_readProduct (d : Nat) (l0 : Nat) (h : qH) : q_call q_MT (d + 1) 193 [.ref l0] h = q_run qm_X11_readProduct (q_call q_MT d) 0 [.ref l0, q_junk] [] h := q_call_s (M := qm_X11_readProduct) rfl rfl rfl
set_option maxRecDepth 20000 in
theorem cl_X11_readTwo (d : Nat) (l0 : Nat) (l1 : Int32) (l2 : Int32) (h : qH) : q_call q_MT (d + 1) 194 [.ref l0, .int l1, .int l2] h = q_run qm_X11_readTwo (q_call q_MT d) 0 [.ref l0, .int l1, .int l2] [] h := q_call_s (M := qm_X11_readTwo) rfl rfl rfl
set_option maxRecDepth 20000 in
theorem cl_X11_factHere (d : Nat) (l0 : Nat) (h : qH) : q_call q_MT (d + 1) 195 [.ref l0] h = q_run qm_X11_factHere (q_call q_MT d) 0 [.ref l0, q_junk] [] h := q_call_s (M := qm_X11_factHere) rfl rfl rfl
set_option maxRecDepth 20000 in
theorem cl_X11_readUnit (d : Nat) (l0 : Nat) (h : qH) : q_call q_MT (d + 1) 196 [.ref l0] h = q_run qm_X11_readUnit (q_call q_MT d) 0 [.ref l0, q_junk] [] h := q_call_s (M := qm_X11_readUnit) rfl rfl rfl
set_option maxRecDepth 20000 in
theorem cl_X11_law (d : Nat) (l0 : Nat) (l1 : Int32) (h : qH) : q_call q_MT (d + 1) 197 [.ref l0, .int l1] h = q_run qm_X11_law (q_call q_MT d) 0 [.ref l0, .int l1, q_junk] [] h := q_call_s (M := qm_X11_law) rfl rfl rfl
set_option maxRecDepth 20000 in
theorem cl_X11_valueNow (d : Nat) (l0 : Nat) (h : qH) : q_call q_MT (d + 1) 198 [.ref l0] h = q_run qm_X11_valueNow (q_call q_MT d) 0 [.ref l0, q_junk, q_junk, q_junk] [] h := q_call_s (M := qm_X11_valueNow) rfl rfl rfl
set_option maxRecDepth 20000 in
theorem cl_X11_both (d : Nat) (l0 : Int32) (l1 : Int32) (l2 : Int32) (h : qH) : q_call q_MT (d + 1) 199 [.int l0, .int l1, .int l2] h = q_run qm_X11_both (q_call q_MT d) 0 [.int l0, .int l1, .int l2] [] h := q_call_s (M := qm_X11_both) rfl rfl rfl
set_option maxRecDepth 20000 in
theorem cl_X11_fliesNow (d : Nat) (l0 : Nat) (h : qH) : q_call q_MT (d + 1) 200 [.ref l0] h = q_run qm_X11_fliesNow (q_call q_MT d) 0 [.ref l0, q_junk] [] h := q_call_s (M := qm_X11_fliesNow) rfl rfl rfl
set_option maxRecDepth 20000 in
theorem cl_X11_tellsStep (d : Nat) (l0 : Nat) (l1 : Int32) (l2 : Int32) (l3 : Int32) (h : qH) : q_call q_MT (d + 1) 201 [.ref l0, .int l1, .int l2, .int l3] h = q_run qm_X11_tellsStep (q_call q_MT d) 0 [.ref l0, .int l1, .int l2, .int l3] [] h := q_call_s (M := qm_X11_tellsStep) rfl rfl rfl
set_option maxRecDepth 20000 in
theorem cl_X11_readStep (d : Nat) (l0 : Nat) (h : qH) : q_call q_MT (d + 1) 202 [.ref l0] h = q_run qm_X11_readStep (q_call q_MT d) 0 [.ref l0, q_junk, q_junk, q_junk] [] h := q_call_s (M := qm_X11_readStep) rfl rfl rfl
set_option maxRecDepth 20000 in
theorem cl_X11_play (d : Nat) (l0 : Nat) (l1 : Int32) (h : qH) : q_call q_MT (d + 1) 203 [.ref l0, .int l1] h = q_run qm_X11_play (q_call q_MT d) 0 [.ref l0, .int l1, q_junk, q_junk] [] h := q_call_s (M := qm_X11_play) rfl rfl rfl
set_option maxRecDepth 20000 in
theorem cl_X11_goesSteps (d : Nat) (l0 : Nat) (l1 : Int32) (l2 : Int32) (h : qH) : q_call q_MT (d + 1) 204 [.ref l0, .int l1, .int l2] h = q_run qm_X11_goesSteps (q_call q_MT d) 0 [.ref l0, .int l1, .int l2, q_junk, q_junk, q_junk] [] h := q_call_s (M := qm_X11_goesSteps) rfl rfl rfl
set_option maxRecDepth 20000 in
theorem cl_X11_take (d : Nat) (l0 : Nat) (h : qH) : q_call q_MT (d + 1) 205 [.ref l0] h = q_run qm_X11_take (q_call q_MT d) 0 [.ref l0] [] h := q_call_s (M := qm_X11_take) rfl rfl rfl
set_option maxRecDepth 20000 in
theorem cl_X11_manyAt (d : Nat) (l0 : Nat) (l1 : Int32) (h : qH) : q_call q_MT (d + 1) 206 [.ref l0, .int l1] h = q_run qm_X11_manyAt (q_call q_MT d) 0 [.ref l0, .int l1, q_junk, q_junk] [] h := q_call_s (M := qm_X11_manyAt) rfl rfl rfl
set_option maxRecDepth 20000 in
theorem cl_X11_over (d : Nat) (l0 : Nat) (l1 : Int32) (h : qH) : q_call q_MT (d + 1) 207 [.ref l0, .int l1] h = q_run qm_X11_over (q_call q_MT d) 0 [.ref l0, .int l1] [] h := q_call_s (M := qm_X11_over) rfl rfl rfl
set_option maxRecDepth 20000 in
theorem cl_X11_canFlick (d : Nat) (l0 : Nat) (l1 : Int32) (h : qH) : q_call q_MT (d + 1) 208 [.ref l0, .int l1] h = q_run qm_X11_canFlick (q_call q_MT d) 0 [.ref l0, .int l1] [] h := q_call_s (M := qm_X11_canFlick) rfl rfl rfl
set_option maxRecDepth 20000 in
theorem cl_X11_whoAt (d : Nat) (l0 : Nat) (l1 : Int32) (l2 : Int32) (h : qH) : q_call q_MT (d + 1) 209 [.ref l0, .int l1, .int l2] h = q_run qm_X11_whoAt (q_call q_MT d) 0 [.ref l0, .int l1, .int l2, q_junk] [] h := q_call_s (M := qm_X11_whoAt) rfl rfl rfl
set_option maxRecDepth 20000 in
theorem cl_X11_cupAt (d : Nat) (l0 : Nat) (l1 : Int32) (h : qH) : q_call q_MT (d + 1) 210 [.ref l0, .int l1] h = q_run qm_X11_cupAt (q_call q_MT d) 0 [.ref l0, .int l1, q_junk] [] h := q_call_s (M := qm_X11_cupAt) rfl rfl rfl
set_option maxRecDepth 20000 in
theorem cl_X11_fliesOf (d : Nat) (l0 : Nat) (l1 : Int32) (l2 : Int32) (l3 : Int32) (l4 : Int32) (l5 : Int32) (l6 : Int32) (l7 : Int32) (l8 : Int32) (l9 : Int32) (h : qH) : q_call q_MT (d + 1) 211 [.ref l0, .int l1, .int l2, .int l3, .int l4, .int l5, .int l6, .int l7, .int l8, .int l9] h = q_run qm_X11_fliesOf (q_call q_MT d) 0 [.ref l0, .int l1, .int l2, .int l3, .int l4, .int l5, .int l6, .int l7, .int l8, .int l9] [] h := q_call_s (M := qm_X11_fliesOf) rfl rfl rfl
set_option maxRecDepth 20000 in
theorem cl_X11_fliesBy (d : Nat) (l0 : Nat) (l1 : Int32) (l2 : Int32) (l3 : Int32) (l4 : Int32) (h : qH) : q_call q_MT (d + 1) 212 [.ref l0, .int l1, .int l2, .int l3, .int l4] h = q_run qm_X11_fliesBy (q_call q_MT d) 0 [.ref l0, .int l1, .int l2, .int l3, .int l4] [] h := q_call_s (M := qm_X11_fliesBy) rfl rfl rfl
set_option maxRecDepth 20000 in
theorem cl_X11_fliesAsItLies (d : Nat) (l0 : Nat) (l1 : Int32) (l2 : Int32) (h : qH) : q_call q_MT (d + 1) 213 [.ref l0, .int l1, .int l2] h = q_run qm_X11_fliesAsItLies (q_call q_MT d) 0 [.ref l0, .int l1, .int l2] [] h := q_call_s (M := qm_X11_fliesAsItLies) rfl rfl rfl
set_option maxRecDepth 20000 in
theorem cl_X11_comesTo (d : Nat) (l0 : Nat) (l1 : Int32) (l2 : Int32) (l3 : Int32) (h : qH) : q_call q_MT (d + 1) 214 [.ref l0, .int l1, .int l2, .int l3] h = q_run qm_X11_comesTo (q_call q_MT d) 0 [.ref l0, .int l1, .int l2, .int l3, q_junk] [] h := q_call_s (M := qm_X11_comesTo) rfl rfl rfl
set_option maxRecDepth 20000 in
theorem cl_X11_lands (d : Nat) (l0 : Nat) (l1 : Int32) (l2 : Int32) (h : qH) : q_call q_MT (d + 1) 215 [.ref l0, .int l1, .int l2] h = q_run qm_X11_lands (q_call q_MT d) 0 [.ref l0, .int l1, .int l2, q_junk] [] h := q_call_s (M := qm_X11_lands) rfl rfl rfl
set_option maxRecDepth 20000 in
theorem cl_X11_earns (d : Nat) (l0 : Nat) (l1 : Int32) (l2 : Int32) (h : qH) : q_call q_MT (d + 1) 216 [.ref l0, .int l1, .int l2] h = q_run qm_X11_earns (q_call q_MT d) 0 [.ref l0, .int l1, .int l2] [] h := q_call_s (M := qm_X11_earns) rfl rfl rfl
set_option maxRecDepth 20000 in
theorem cl_X11_flights (d : Nat) (l0 : Nat) (l1 : Int32) (l2 : Int32) (l3 : Int32) (h : qH) : q_call q_MT (d + 1) 217 [.ref l0, .int l1, .int l2, .int l3] h = q_run qm_X11_flights (q_call q_MT d) 0 [.ref l0, .int l1, .int l2, .int l3, q_junk] [] h := q_call_s (M := qm_X11_flights) rfl rfl rfl
set_option maxRecDepth 20000 in
theorem cl_X11_flicks (d : Nat) (l0 : Nat) (l1 : Int32) (l2 : Int32) (l3 : Int32) (h : qH) : q_call q_MT (d + 1) 218 [.ref l0, .int l1, .int l2, .int l3] h = q_run qm_X11_flicks (q_call q_MT d) 0 [.ref l0, .int l1, .int l2, .int l3, q_junk, q_junk] [] h := q_call_s (M := qm_X11_flicks) rfl rfl rfl
set_option maxRecDepth 20000 in
theorem cl_X11_frees (d : Nat) (l0 : Nat) (h : qH) : q_call q_MT (d + 1) 219 [.ref l0] h = q_run qm_X11_frees (q_call q_MT d) 0 [.ref l0, q_junk, q_junk] [] h := q_call_s (M := qm_X11_frees) rfl rfl rfl
set_option maxRecDepth 20000 in
theorem cl_X11_shakes (d : Nat) (l0 : Nat) (h : qH) : q_call q_MT (d + 1) 220 [.ref l0] h = q_run qm_X11_shakes (q_call q_MT d) 0 [.ref l0, q_junk] [] h := q_call_s (M := qm_X11_shakes) rfl rfl rfl
set_option maxRecDepth 20000 in
theorem cl_X11_passes (d : Nat) (l0 : Nat) (h : qH) : q_call q_MT (d + 1) 221 [.ref l0] h = q_run qm_X11_passes (q_call q_MT d) 0 [.ref l0, q_junk] [] h := q_call_s (M := qm_X11_passes) rfl rfl rfl
set_option maxRecDepth 20000 in
theorem cl_X11_goes (d : Nat) (l0 : Nat) (l1 : Int32) (l2 : Int32) (l3 : Int32) (h : qH) : q_call q_MT (d + 1) 222 [.ref l0, .int l1, .int l2, .int l3] h = q_run qm_X11_goes (q_call q_MT d) 0 [.ref l0, .int l1, .int l2, .int l3] [] h := q_call_s (M := qm_X11_goes) rfl rfl rfl
set_option maxRecDepth 20000 in
theorem cl_X11_book (d : Nat) (l0 : Nat) (l1 : Int32) (h : qH) : q_call q_MT (d + 1) 223 [.ref l0, .int l1] h = q_run qm_X11_book (q_call q_MT d) 0 [.ref l0, .int l1, q_junk, q_junk, q_junk, q_junk] [] h := q_call_s (M := qm_X11_book) rfl rfl rfl
set_option maxRecDepth 20000 in
theorem cl_X11_isTold (d : Nat) (l0 : Nat) (l1 : Int32) (h : qH) : q_call q_MT (d + 1) 224 [.ref l0, .int l1] h = q_run qm_X11_isTold (q_call q_MT d) 0 [.ref l0, .int l1] [] h := q_call_s (M := qm_X11_isTold) rfl rfl rfl
set_option maxRecDepth 20000 in
theorem cl_X11_undo (d : Nat) (l0 : Nat) (h : qH) : q_call q_MT (d + 1) 225 [.ref l0] h = q_run qm_X11_undo (q_call q_MT d) 0 [.ref l0, q_junk] [] h := q_call_s (M := qm_X11_undo) rfl rfl rfl
set_option maxRecDepth 20000 in
theorem cl_X11_frozen (d : Nat) (l0 : Nat) (h : qH) : q_call q_MT (d + 1) 226 [.ref l0] h = q_run qm_X11_frozen (q_call q_MT d) 0 [.ref l0, q_junk, q_junk] [] h := q_call_s (M := qm_X11_frozen) rfl rfl rfl
set_option maxRecDepth 20000 in
theorem cl_X11_those (d : Nat) (l0 : Nat) (l1 : Int32) (h : qH) : q_call q_MT (d + 1) 227 [.ref l0, .int l1] h = q_run qm_X11_those (q_call q_MT d) 0 [.ref l0, .int l1, q_junk, q_junk] [] h := q_call_s (M := qm_X11_those) rfl rfl rfl
set_option maxRecDepth 20000 in
theorem cl_X11_told (d : Nat) (l0 : Nat) (l1 : Int32) (h : qH) : q_call q_MT (d + 1) 228 [.ref l0, .int l1] h = q_run qm_X11_told (q_call q_MT d) 0 [.ref l0, .int l1] [] h := q_call_s (M := qm_X11_told) rfl rfl rfl
set_option maxRecDepth 20000 in
theorem cl_X11_isHouse (d : Nat) (l0 : Nat) (l1 : Int32) (l2 : Int32) (h : qH) : q_call q_MT (d + 1) 229 [.ref l0, .int l1, .int l2] h = q_run qm_X11_isHouse (q_call q_MT d) 0 [.ref l0, .int l1, .int l2] [] h := q_call_s (M := qm_X11_isHouse) rfl rfl rfl
set_option maxRecDepth 20000 in
theorem cl_X11_isWink (d : Nat) (l0 : Nat) (l1 : Int32) (l2 : Int32) (h : qH) : q_call q_MT (d + 1) 230 [.ref l0, .int l1, .int l2] h = q_run qm_X11_isWink (q_call q_MT d) 0 [.ref l0, .int l1, .int l2] [] h := q_call_s (M := qm_X11_isWink) rfl rfl rfl
set_option maxRecDepth 20000 in
theorem cl_X11_house (d : Nat) (l0 : Nat) (l1 : Int32) (l2 : Int32) (h : qH) : q_call q_MT (d + 1) 231 [.ref l0, .int l1, .int l2] h = q_run qm_X11_house (q_call q_MT d) 0 [.ref l0, .int l1, .int l2, q_junk, q_junk] [] h := q_call_s (M := qm_X11_house) rfl rfl rfl
set_option maxRecDepth 20000 in
theorem cl_X11_wink (d : Nat) (l0 : Nat) (l1 : Int32) (l2 : Int32) (h : qH) : q_call q_MT (d + 1) 232 [.ref l0, .int l1, .int l2] h = q_run qm_X11_wink (q_call q_MT d) 0 [.ref l0, .int l1, .int l2] [] h := q_call_s (M := qm_X11_wink) rfl rfl rfl
set_option maxRecDepth 20000 in
theorem cl_X11_cup (d : Nat) (l0 : Nat) (l1 : Int32) (l2 : Int32) (h : qH) : q_call q_MT (d + 1) 233 [.ref l0, .int l1, .int l2] h = q_run qm_X11_cup (q_call q_MT d) 0 [.ref l0, .int l1, .int l2, q_junk, q_junk] [] h := q_call_s (M := qm_X11_cup) rfl rfl rfl
set_option maxRecDepth 20000 in
theorem cl_X11_cell (d : Nat) (l0 : Nat) (l1 : Int32) (l2 : Int32) (h : qH) : q_call q_MT (d + 1) 234 [.ref l0, .int l1, .int l2] h = q_run qm_X11_cell (q_call q_MT d) 0 [.ref l0, .int l1, .int l2] [] h := q_call_s (M := qm_X11_cell) rfl rfl rfl
set_option maxRecDepth 20000 in
theorem cl_X11_isPress (d : Nat) (l0 : Int32) (h : qH) : q_call q_MT (d + 1) 235 [.int l0] h = q_run qm_X11_isPress (q_call q_MT d) 0 [.int l0] [] h := q_call_s (M := qm_X11_isPress) rfl rfl rfl
set_option maxRecDepth 20000 in
theorem cl_X11_flies (d : Nat) (l0 : Nat) (l1 : Int32) (l2 : Int32) (h : qH) : q_call q_MT (d + 1) 236 [.ref l0, .int l1, .int l2] h = q_run qm_X11_flies (q_call q_MT d) 0 [.ref l0, .int l1, .int l2] [] h := q_call_s (M := qm_X11_flies) rfl rfl rfl
set_option maxRecDepth 20000 in
theorem cl_X11_would (d : Nat) (l0 : Nat) (l1 : Int32) (l2 : Int32) (l3 : Int32) (l4 : Int32) (l5 : Int32) (l6 : Int32) (l7 : Int32) (l8 : Int32) (l9 : Int32) (h : qH) : q_call q_MT (d + 1) 237 [.ref l0, .int l1, .int l2, .int l3, .int l4, .int l5, .int l6, .int l7, .int l8, .int l9] h = q_run qm_X11_would (q_call q_MT d) 0 [.ref l0, .int l1, .int l2, .int l3, .int l4, .int l5, .int l6, .int l7, .int l8, .int l9] [] h := q_call_s (M := qm_X11_would) rfl rfl rfl
set_option maxRecDepth 20000 in
theorem cl_X11_downOf (d : Nat) (l0 : Nat) (l1 : Int32) (l2 : Int32) (l3 : Int32) (h : qH) : q_call q_MT (d + 1) 238 [.ref l0, .int l1, .int l2, .int l3] h = q_run qm_X11_downOf (q_call q_MT d) 0 [.ref l0, .int l1, .int l2, .int l3] [] h := q_call_s (M := qm_X11_downOf) rfl rfl rfl
set_option maxRecDepth 20000 in
theorem cl_X11_cupOf (d : Nat) (l0 : Nat) (l1 : Int32) (l2 : Int32) (l3 : Int32) (h : qH) : q_call q_MT (d + 1) 239 [.ref l0, .int l1, .int l2, .int l3] h = q_run qm_X11_cupOf (q_call q_MT d) 0 [.ref l0, .int l1, .int l2, .int l3, q_junk] [] h := q_call_s (M := qm_X11_cupOf) rfl rfl rfl
set_option maxRecDepth 20000 in
theorem cl_X11_down (d : Nat) (l0 : Nat) (l1 : Int32) (l2 : Int32) (l3 : Int32) (h : qH) : q_call q_MT (d + 1) 240 [.ref l0, .int l1, .int l2, .int l3] h = q_run qm_X11_down (q_call q_MT d) 0 [.ref l0, .int l1, .int l2, .int l3] [] h := q_call_s (M := qm_X11_down) rfl rfl rfl
set_option maxRecDepth 20000 in
theorem cl_X11_presses (d : Nat) (l0 : Nat) (l1 : Int32) (l2 : Int32) (h : qH) : q_call q_MT (d + 1) 241 [.ref l0, .int l1, .int l2] h = q_run qm_X11_presses (q_call q_MT d) 0 [.ref l0, .int l1, .int l2, q_junk, q_junk] [] h := q_call_s (M := qm_X11_presses) rfl rfl rfl
set_option maxRecDepth 20000 in
theorem cl_X11_gain (d : Nat) (l0 : Nat) (l1 : Int32) (l2 : Int32) (h : qH) : q_call q_MT (d + 1) 242 [.ref l0, .int l1, .int l2] h = q_run qm_X11_gain (q_call q_MT d) 0 [.ref l0, .int l1, .int l2, q_junk, q_junk, q_junk, q_junk, q_junk, q_junk, q_junk] [] h := q_call_s (M := qm_X11_gain) rfl rfl rfl
set_option maxRecDepth 20000 in
theorem cl_X11_findWay (d : Nat) (l0 : Nat) (l1 : Int32) (h : qH) : q_call q_MT (d + 1) 243 [.ref l0, .int l1] h = q_run qm_X11_findWay (q_call q_MT d) 0 [.ref l0, .int l1, q_junk, q_junk, q_junk, q_junk, q_junk, q_junk, q_junk, q_junk, q_junk] [] h := q_call_s (M := qm_X11_findWay) rfl rfl rfl
set_option maxRecDepth 20000 in
theorem cl_X11_way (d : Nat) (l0 : Nat) (l1 : Int32) (l2 : Int32) (h : qH) : q_call q_MT (d + 1) 244 [.ref l0, .int l1, .int l2] h = q_run qm_X11_way (q_call q_MT d) 0 [.ref l0, .int l1, .int l2] [] h := q_call_s (M := qm_X11_way) rfl rfl rfl
set_option maxRecDepth 20000 in
theorem cl_X11_valueBy (d : Nat) (l0 : Nat) (l1 : Int32) (l2 : Int32) (l3 : Int32) (h : qH) : q_call q_MT (d + 1) 245 [.ref l0, .int l1, .int l2, .int l3] h = q_run qm_X11_valueBy (q_call q_MT d) 0 [.ref l0, .int l1, .int l2, .int l3, q_junk, q_junk] [] h := q_call_s (M := qm_X11_valueBy) rfl rfl rfl
set_option maxRecDepth 20000 in
theorem cl_X11_thumbOf (d : Nat) (l0 : Nat) (l1 : Int32) (l2 : Int32) (l3 : Int32) (l4 : Int32) (h : qH) : q_call q_MT (d + 1) 246 [.ref l0, .int l1, .int l2, .int l3, .int l4] h = q_run qm_X11_thumbOf (q_call q_MT d) 0 [.ref l0, .int l1, .int l2, .int l3, .int l4] [] h := q_call_s (M := qm_X11_thumbOf) rfl rfl rfl
set_option maxRecDepth 20000 in
theorem cl_X11_least (d : Nat) (l0 : Int32) (l1 : Int32) (l2 : Int32) (h : qH) : q_call q_MT (d + 1) 247 [.int l0, .int l1, .int l2] h = q_run qm_X11_least (q_call q_MT d) 0 [.int l0, .int l1, .int l2, q_junk, q_junk, q_junk] [] h := q_call_s (M := qm_X11_least) rfl rfl rfl
set_option maxRecDepth 20000 in
theorem cl_X11_thumb (d : Nat) (l0 : Nat) (l1 : Int32) (l2 : Int32) (l3 : Int32) (l4 : Int32) (l5 : Int32) (h : qH) : q_call q_MT (d + 1) 248 [.ref l0, .int l1, .int l2, .int l3, .int l4, .int l5] h = q_run qm_X11_thumb (q_call q_MT d) 0 [.ref l0, .int l1, .int l2, .int l3, .int l4, .int l5] [] h := q_call_s (M := qm_X11_thumb) rfl rfl rfl
set_option maxRecDepth 20000 in
theorem cl_X11_odds (d : Nat) (l0 : Nat) (l1 : Int32) (l2 : Int32) (l3 : Int32) (l4 : Int32) (h : qH) : q_call q_MT (d + 1) 249 [.ref l0, .int l1, .int l2, .int l3, .int l4] h = q_run qm_X11_odds (q_call q_MT d) 0 [.ref l0, .int l1, .int l2, .int l3, .int l4] [] h := q_call_s (M := qm_X11_odds) rfl rfl rfl
set_option maxRecDepth 20000 in
theorem cl_X11_mean (d : Nat) (l0 : Nat) (l1 : Int32) (l2 : Int32) (l3 : Int32) (l4 : Int32) (h : qH) : q_call q_MT (d + 1) 250 [.ref l0, .int l1, .int l2, .int l3, .int l4] h = q_run qm_X11_mean (q_call q_MT d) 0 [.ref l0, .int l1, .int l2, .int l3, .int l4] [] h := q_call_s (M := qm_X11_mean) rfl rfl rfl
set_option maxRecDepth 20000 in
theorem cl_X11_reaches (d : Nat) (l0 : Nat) (l1 : Int32) (l2 : Int32) (h : qH) : q_call q_MT (d + 1) 251 [.ref l0, .int l1, .int l2] h = q_run qm_X11_reaches (q_call q_MT d) 0 [.ref l0, .int l1, .int l2, q_junk] [] h := q_call_s (M := qm_X11_reaches) rfl rfl rfl
set_option maxRecDepth 20000 in
theorem cl_X11_findMatch (d : Nat) (l0 : Nat) (h : qH) : q_call q_MT (d + 1) 252 [.ref l0] h = q_run qm_X11_findMatch (q_call q_MT d) 0 [.ref l0, q_junk, q_junk, q_junk, q_junk, q_junk, q_junk, q_junk, q_junk, q_junk, q_junk] [] h := q_call_s (M := qm_X11_findMatch) rfl rfl rfl
set_option maxRecDepth 20000 in
theorem cl_X11_match (d : Nat) (l0 : Nat) (h : qH) : q_call q_MT (d + 1) 253 [.ref l0] h = q_run qm_X11_match (q_call q_MT d) 0 [.ref l0] [] h := q_call_s (M := qm_X11_match) rfl rfl rfl
set_option maxRecDepth 20000 in
theorem cl_X11_matched (d : Nat) (l0 : Nat) (l1 : Int32) (h : qH) : q_call q_MT (d + 1) 254 [.ref l0, .int l1] h = q_run qm_X11_matched (q_call q_MT d) 0 [.ref l0, .int l1] [] h := q_call_s (M := qm_X11_matched) rfl rfl rfl
set_option maxRecDepth 20000 in
theorem cl_X11_fliesWith (d : Nat) (l0 : Nat) (l1 : Int32) (l2 : Int32) (l3 : Int32) (h : qH) : q_call q_MT (d + 1) 255 [.ref l0, .int l1, .int l2, .int l3] h = q_run qm_X11_fliesWith (q_call q_MT d) 0 [.ref l0, .int l1, .int l2, .int l3] [] h := q_call_s (M := qm_X11_fliesWith) rfl rfl rfl
set_option maxRecDepth 20000 in
theorem cl_X11_isRight (d : Nat) (l0 : Nat) (l1 : Int32) (l2 : Int32) (h : qH) : q_call q_MT (d + 1) 256 [.ref l0, .int l1, .int l2] h = q_run qm_X11_isRight (q_call q_MT d) 0 [.ref l0, .int l1, .int l2, q_junk] [] h := q_call_s (M := qm_X11_isRight) rfl rfl rfl
set_option maxRecDepth 20000 in
theorem cl_X11_fits (d : Nat) (l0 : Nat) (l1 : Int32) (l2 : Int32) (h : qH) : q_call q_MT (d + 1) 257 [.ref l0, .int l1, .int l2] h = q_run qm_X11_fits (q_call q_MT d) 0 [.ref l0, .int l1, .int l2, q_junk, q_junk, q_junk] [] h := q_call_s (M := qm_X11_fits) rfl rfl rfl
set_option maxRecDepth 20000 in
theorem cl_X11_worstAt (d : Nat) (l0 : Nat) (l1 : Int32) (l2 : Int32) (h : qH) : q_call q_MT (d + 1) 258 [.ref l0, .int l1, .int l2] h = q_run qm_X11_worstAt (q_call q_MT d) 0 [.ref l0, .int l1, .int l2, q_junk, q_junk, q_junk] [] h := q_call_s (M := qm_X11_worstAt) rfl rfl rfl
set_option maxRecDepth 20000 in
theorem cl_X11_look (d : Nat) (l0 : Nat) (l1 : Int32) (l2 : Int32) (h : qH) : q_call q_MT (d + 1) 259 [.ref l0, .int l1, .int l2] h = q_run qm_X11_look (q_call q_MT d) 0 [.ref l0, .int l1, .int l2, q_junk, q_junk, q_junk, q_junk] [] h := q_call_s (M := qm_X11_look) rfl rfl rfl
set_option maxRecDepth 20000 in
theorem cl_X11_hasBy (d : Nat) (l0 : Nat) (l1 : Int32) (l2 : Int32) (l3 : Int32) (l4 : Int32) (h : qH) : q_call q_MT (d + 1) 260 [.ref l0, .int l1, .int l2, .int l3, .int l4] h = q_run qm_X11_hasBy (q_call q_MT d) 0 [.ref l0, .int l1, .int l2, .int l3, .int l4, q_junk, q_junk, q_junk] [] h := q_call_s (M := qm_X11_hasBy) rfl rfl rfl
set_option maxRecDepth 20000 in
theorem cl_X11_isRest (d : Nat) (l0 : Nat) (l1 : Int32) (l2 : Int32) (l3 : Int32) (l4 : Int32) (h : qH) : q_call q_MT (d + 1) 261 [.ref l0, .int l1, .int l2, .int l3, .int l4] h = q_run qm_X11_isRest (q_call q_MT d) 0 [.ref l0, .int l1, .int l2, .int l3, .int l4, q_junk] [] h := q_call_s (M := qm_X11_isRest) rfl rfl rfl
set_option maxRecDepth 20000 in
theorem cl_X11_duel (d : Nat) (l0 : Nat) (l1 : Int32) (l2 : Int32) (l3 : Int32) (h : qH) : q_call q_MT (d + 1) 262 [.ref l0, .int l1, .int l2, .int l3] h = q_run qm_X11_duel (q_call q_MT d) 0 [.ref l0, .int l1, .int l2, .int l3, q_junk, q_junk, q_junk] [] h := q_call_s (M := qm_X11_duel) rfl rfl rfl
set_option maxRecDepth 20000 in
theorem cl_X11_panic (d : Nat) (l0 : Nat) (l1 : Int32) (l2 : Int32) (h : qH) : q_call q_MT (d + 1) 263 [.ref l0, .int l1, .int l2] h = q_run qm_X11_panic (q_call q_MT d) 0 [.ref l0, .int l1, .int l2, q_junk, q_junk, q_junk, q_junk] [] h := q_call_s (M := qm_X11_panic) rfl rfl rfl
set_option maxRecDepth 20000 in
theorem cl_X11_givenBy (d : Nat) (l0 : Nat) (l1 : Int32) (h : qH) : q_call q_MT (d + 1) 264 [.ref l0, .int l1] h = q_run qm_X11_givenBy (q_call q_MT d) 0 [.ref l0, .int l1, q_junk, q_junk] [] h := q_call_s (M := qm_X11_givenBy) rfl rfl rfl
set_option maxRecDepth 20000 in
theorem cl_X11_level (d : Nat) (l0 : Nat) (l1 : Int32) (l2 : Int32) (h : qH) : q_call q_MT (d + 1) 265 [.ref l0, .int l1, .int l2] h = q_run qm_X11_level (q_call q_MT d) 0 [.ref l0, .int l1, .int l2, q_junk] [] h := q_call_s (M := qm_X11_level) rfl rfl rfl
set_option maxRecDepth 20000 in
theorem cl_X11_trust (d : Nat) (l0 : Nat) (l1 : Int32) (h : qH) : q_call q_MT (d + 1) 266 [.ref l0, .int l1] h = q_run qm_X11_trust (q_call q_MT d) 0 [.ref l0, .int l1, q_junk, q_junk, q_junk] [] h := q_call_s (M := qm_X11_trust) rfl rfl rfl
set_option maxRecDepth 20000 in
theorem cl_X11_richest (d : Nat) (l0 : Nat) (l1 : Int32) (h : qH) : q_call q_MT (d + 1) 267 [.ref l0, .int l1] h = q_run qm_X11_richest (q_call q_MT d) 0 [.ref l0, .int l1, q_junk, q_junk] [] h := q_call_s (M := qm_X11_richest) rfl rfl rfl
set_option maxRecDepth 20000 in
theorem cl_X11_ahead (d : Nat) (l0 : Nat) (l1 : Int32) (l2 : Int32) (h : qH) : q_call q_MT (d + 1) 268 [.ref l0, .int l1, .int l2] h = q_run qm_X11_ahead (q_call q_MT d) 0 [.ref l0, .int l1, .int l2, q_junk] [] h := q_call_s (M := qm_X11_ahead) rfl rfl rfl
set_option maxRecDepth 20000 in
theorem cl_X11_draws (d : Nat) (l0 : Nat) (l1 : Int32) (h : qH) : q_call q_MT (d + 1) 269 [.ref l0, .int l1] h = q_run qm_X11_draws (q_call q_MT d) 0 [.ref l0, .int l1] [] h := q_call_s (M := qm_X11_draws) rfl rfl rfl
set_option maxRecDepth 20000 in
theorem cl_X11_seasonGoes (d : Nat) (l0 : Nat) (l1 : Int32) (l2 : Int32) (l3 : Int32) (h : qH) : q_call q_MT (d + 1) 270 [.ref l0, .int l1, .int l2, .int l3] h = q_run qm_X11_seasonGoes (q_call q_MT d) 0 [.ref l0, .int l1, .int l2, .int l3, q_junk, q_junk, q_junk] [] h := q_call_s (M := qm_X11_seasonGoes) rfl rfl rfl
set_option maxRecDepth 20000 in
theorem cl_X11_manyOf (d : Nat) (l0 : Nat) (l1 : Int32) (h : qH) : q_call q_MT (d + 1) 271 [.ref l0, .int l1] h = q_run qm_X11_manyOf (q_call q_MT d) 0 [.ref l0, .int l1, q_junk, q_junk] [] h := q_call_s (M := qm_X11_manyOf) rfl rfl rfl
set_option maxRecDepth 20000 in
theorem cl_X11_isSeason (d : Nat) (l0 : Int32) (l1 : Int32) (h : qH) : q_call q_MT (d + 1) 272 [.int l0, .int l1] h = q_run qm_X11_isSeason (q_call q_MT d) 0 [.int l0, .int l1] [] h := q_call_s (M := qm_X11_isSeason) rfl rfl rfl
set_option maxRecDepth 20000 in
theorem cl_X11_season (d : Nat) (l0 : Nat) (l1 : Int32) (l2 : Int32) (l3 : Int32) (l4 : Int32) (h : qH) : q_call q_MT (d + 1) 273 [.ref l0, .int l1, .int l2, .int l3, .int l4] h = q_run qm_X11_season (q_call q_MT d) 0 [.ref l0, .int l1, .int l2, .int l3, .int l4, q_junk, q_junk] [] h := q_call_s (M := qm_X11_season) rfl rfl rfl
set_option maxRecDepth 20000 in
theorem cl_X11_span (d : Nat) (l0 : Nat) (l1 : Int32) (l2 : Int32) (l3 : Int32) (l4 : Int32) (l5 : Int32) (h : qH) : q_call q_MT (d + 1) 274 [.ref l0, .int l1, .int l2, .int l3, .int l4, .int l5] h = q_run qm_X11_span (q_call q_MT d) 0 [.ref l0, .int l1, .int l2, .int l3, .int l4, .int l5, q_junk, q_junk, q_junk, q_junk, q_junk] [] h := q_call_s (M := qm_X11_span) rfl rfl rfl
set_option maxRecDepth 20000 in
theorem cl_X11_keepsRow (d : Nat) (l0 : Nat) (l1 : Int32) (l2 : Nat) (l3 : Int32) (l4 : Int32) (h : qH) : q_call q_MT (d + 1) 275 [.ref l0, .int l1, .ref l2, .int l3, .int l4] h = q_run qm_X11_keepsRow (q_call q_MT d) 0 [.ref l0, .int l1, .ref l2, .int l3, .int l4, q_junk] [] h := q_call_s (M := qm_X11_keepsRow) rfl rfl rfl
set_option maxRecDepth 20000 in
theorem cl_X11_keepsAll (d : Nat) (l0 : Nat) (l1 : Int32) (l2 : Int32) (h : qH) : q_call q_MT (d + 1) 276 [.ref l0, .int l1, .int l2] h = q_run qm_X11_keepsAll (q_call q_MT d) 0 [.ref l0, .int l1, .int l2, q_junk] [] h := q_call_s (M := qm_X11_keepsAll) rfl rfl rfl
set_option maxRecDepth 20000 in
theorem cl_X11_image (d : Nat) (l0 : Nat) (h : qH) : q_call q_MT (d + 1) 277 [.ref l0] h = q_run qm_X11_image (q_call q_MT d) 0 [.ref l0] [] h := q_call_s (M := qm_X11_image) rfl rfl rfl
set_option maxRecDepth 20000 in
theorem cl_X11_restore (d : Nat) (l0 : Nat) (h : qH) : q_call q_MT (d + 1) 278 [.ref l0] h = q_run qm_X11_restore (q_call q_MT d) 0 [.ref l0] [] h := q_call_s (M := qm_X11_restore) rfl rfl rfl
set_option maxRecDepth 20000 in
theorem cl_X11_status (d : Nat) (l0 : Nat) (l1 : Int32) (h : qH) : q_call q_MT (d + 1) 279 [.ref l0, .int l1] h = q_run qm_X11_status (q_call q_MT d) 0 [.ref l0, .int l1] [] h := q_call_s (M := qm_X11_status) rfl rfl rfl
set_option maxRecDepth 20000 in
theorem cl_X11_count (d : Nat) (l0 : Nat) (l1 : Int32) (h : qH) : q_call q_MT (d + 1) 280 [.ref l0, .int l1] h = q_run qm_X11_count (q_call q_MT d) 0 [.ref l0, .int l1] [] h := q_call_s (M := qm_X11_count) rfl rfl rfl
set_option maxRecDepth 20000 in
theorem cl_L_room (d : Nat) (l0 : Nat) (l1 : Int32) (l2 : Nat) (h : qH) : q_call q_MT (d + 1) 281 [.ref l0, .int l1, .ref l2] h = q_run qm_L_room (q_call q_MT d) 0 [.ref l0, .int l1, .ref l2, q_junk] [] h := q_call_s (M := qm_L_room) rfl rfl rfl
set_option maxRecDepth 20000 in
theorem cl_L_law (d : Nat) (l0 : Nat) (l1 : Int32) (l2 : Nat) (h : qH) : q_call q_MT (d + 1) 282 [.ref l0, .int l1, .ref l2] h = q_run qm_L_law (q_call q_MT d) 0 [.ref l0, .int l1, .ref l2, q_junk] [] h := q_call_s (M := qm_L_law) rfl rfl rfl
set_option maxRecDepth 20000 in
theorem cl_L_play (d : Nat) (l0 : Nat) (l1 : Int32) (l2 : Nat) (h : qH) : q_call q_MT (d + 1) 283 [.ref l0, .int l1, .ref l2] h = q_run qm_L_play (q_call q_MT d) 0 [.ref l0, .int l1, .ref l2, q_junk] [] h := q_call_s (M := qm_L_play) rfl rfl rfl
set_option maxRecDepth 20000 in
theorem cl_L_book (d : Nat) (l0 : Nat) (l1 : Int32) (l2 : Nat) (h : qH) : q_call q_MT (d + 1) 284 [.ref l0, .int l1, .ref l2] h = q_run qm_L_book (q_call q_MT d) 0 [.ref l0, .int l1, .ref l2, q_junk] [] h := q_call_s (M := qm_L_book) rfl rfl rfl
set_option maxRecDepth 20000 in
theorem cl_L_told (d : Nat) (l0 : Nat) (l1 : Int32) (l2 : Nat) (h : qH) : q_call q_MT (d + 1) 285 [.ref l0, .int l1, .ref l2] h = q_run qm_L_told (q_call q_MT d) 0 [.ref l0, .int l1, .ref l2, q_junk] [] h := q_call_s (M := qm_L_told) rfl rfl rfl
set_option maxRecDepth 20000 in
theorem cl_L_house (d : Nat) (l0 : Nat) (l1 : Int32) (l2 : Int32) (l3 : Nat) (h : qH) : q_call q_MT (d + 1) 286 [.ref l0, .int l1, .int l2, .ref l3] h = q_run qm_L_house (q_call q_MT d) 0 [.ref l0, .int l1, .int l2, .ref l3, q_junk] [] h := q_call_s (M := qm_L_house) rfl rfl rfl
set_option maxRecDepth 20000 in
theorem cl_L_wink (d : Nat) (l0 : Nat) (l1 : Int32) (l2 : Int32) (l3 : Nat) (h : qH) : q_call q_MT (d + 1) 287 [.ref l0, .int l1, .int l2, .ref l3] h = q_run qm_L_wink (q_call q_MT d) 0 [.ref l0, .int l1, .int l2, .ref l3, q_junk] [] h := q_call_s (M := qm_L_wink) rfl rfl rfl
set_option maxRecDepth 20000 in
theorem cl_L_cup (d : Nat) (l0 : Nat) (l1 : Int32) (l2 : Int32) (l3 : Nat) (h : qH) : q_call q_MT (d + 1) 288 [.ref l0, .int l1, .int l2, .ref l3] h = q_run qm_L_cup (q_call q_MT d) 0 [.ref l0, .int l1, .int l2, .ref l3, q_junk] [] h := q_call_s (M := qm_L_cup) rfl rfl rfl
set_option maxRecDepth 20000 in
theorem cl_L_cell (d : Nat) (l0 : Nat) (l1 : Int32) (l2 : Int32) (l3 : Nat) (h : qH) : q_call q_MT (d + 1) 289 [.ref l0, .int l1, .int l2, .ref l3] h = q_run qm_L_cell (q_call q_MT d) 0 [.ref l0, .int l1, .int l2, .ref l3, q_junk] [] h := q_call_s (M := qm_L_cell) rfl rfl rfl
set_option maxRecDepth 20000 in
theorem cl_L_flies (d : Nat) (l0 : Nat) (l1 : Int32) (l2 : Int32) (l3 : Nat) (h : qH) : q_call q_MT (d + 1) 290 [.ref l0, .int l1, .int l2, .ref l3] h = q_run qm_L_flies (q_call q_MT d) 0 [.ref l0, .int l1, .int l2, .ref l3, q_junk] [] h := q_call_s (M := qm_L_flies) rfl rfl rfl
set_option maxRecDepth 20000 in
theorem cl_L_would (d : Nat) (l0 : Nat) (l1 : Int32) (l2 : Int32) (l3 : Int32) (l4 : Int32) (l5 : Int32) (l6 : Int32) (l7 : Int32) (l8 : Int32) (l9 : Int32) (l10 : Nat) (h : qH) : q_call q_MT (d + 1) 291 [.ref l0, .int l1, .int l2, .int l3, .int l4, .int l5, .int l6, .int l7, .int l8, .int l9, .ref l10] h = q_run qm_L_would (q_call q_MT d) 0 [.ref l0, .int l1, .int l2, .int l3, .int l4, .int l5, .int l6, .int l7, .int l8, .int l9, .ref l10, q_junk] [] h := q_call_s (M := qm_L_would) rfl rfl rfl
set_option maxRecDepth 20000 in
theorem cl_L_down (d : Nat) (l0 : Nat) (l1 : Int32) (l2 : Int32) (l3 : Int32) (l4 : Nat) (h : qH) : q_call q_MT (d + 1) 292 [.ref l0, .int l1, .int l2, .int l3, .ref l4] h = q_run qm_L_down (q_call q_MT d) 0 [.ref l0, .int l1, .int l2, .int l3, .ref l4, q_junk] [] h := q_call_s (M := qm_L_down) rfl rfl rfl
set_option maxRecDepth 20000 in
theorem cl_L_presses (d : Nat) (l0 : Nat) (l1 : Int32) (l2 : Int32) (l3 : Nat) (h : qH) : q_call q_MT (d + 1) 293 [.ref l0, .int l1, .int l2, .ref l3] h = q_run qm_L_presses (q_call q_MT d) 0 [.ref l0, .int l1, .int l2, .ref l3, q_junk] [] h := q_call_s (M := qm_L_presses) rfl rfl rfl
set_option maxRecDepth 20000 in
theorem cl_L_gain (d : Nat) (l0 : Nat) (l1 : Int32) (l2 : Int32) (l3 : Nat) (h : qH) : q_call q_MT (d + 1) 294 [.ref l0, .int l1, .int l2, .ref l3] h = q_run qm_L_gain (q_call q_MT d) 0 [.ref l0, .int l1, .int l2, .ref l3, q_junk] [] h := q_call_s (M := qm_L_gain) rfl rfl rfl
set_option maxRecDepth 20000 in
theorem cl_L_way (d : Nat) (l0 : Nat) (l1 : Int32) (l2 : Int32) (l3 : Nat) (h : qH) : q_call q_MT (d + 1) 295 [.ref l0, .int l1, .int l2, .ref l3] h = q_run qm_L_way (q_call q_MT d) 0 [.ref l0, .int l1, .int l2, .ref l3, q_junk] [] h := q_call_s (M := qm_L_way) rfl rfl rfl
set_option maxRecDepth 20000 in
theorem cl_L_odds (d : Nat) (l0 : Nat) (l1 : Int32) (l2 : Int32) (l3 : Int32) (l4 : Int32) (l5 : Nat) (h : qH) : q_call q_MT (d + 1) 296 [.ref l0, .int l1, .int l2, .int l3, .int l4, .ref l5] h = q_run qm_L_odds (q_call q_MT d) 0 [.ref l0, .int l1, .int l2, .int l3, .int l4, .ref l5, q_junk] [] h := q_call_s (M := qm_L_odds) rfl rfl rfl
set_option maxRecDepth 20000 in
theorem cl_L_mean (d : Nat) (l0 : Nat) (l1 : Int32) (l2 : Int32) (l3 : Int32) (l4 : Int32) (l5 : Nat) (h : qH) : q_call q_MT (d + 1) 297 [.ref l0, .int l1, .int l2, .int l3, .int l4, .ref l5] h = q_run qm_L_mean (q_call q_MT d) 0 [.ref l0, .int l1, .int l2, .int l3, .int l4, .ref l5, q_junk] [] h := q_call_s (M := qm_L_mean) rfl rfl rfl
set_option maxRecDepth 20000 in
theorem cl_L_matched (d : Nat) (l0 : Nat) (l1 : Int32) (l2 : Nat) (h : qH) : q_call q_MT (d + 1) 298 [.ref l0, .int l1, .ref l2] h = q_run qm_L_matched (q_call q_MT d) 0 [.ref l0, .int l1, .ref l2, q_junk] [] h := q_call_s (M := qm_L_matched) rfl rfl rfl
set_option maxRecDepth 20000 in
theorem cl_L_fits (d : Nat) (l0 : Nat) (l1 : Int32) (l2 : Int32) (l3 : Nat) (h : qH) : q_call q_MT (d + 1) 299 [.ref l0, .int l1, .int l2, .ref l3] h = q_run qm_L_fits (q_call q_MT d) 0 [.ref l0, .int l1, .int l2, .ref l3, q_junk] [] h := q_call_s (M := qm_L_fits) rfl rfl rfl
set_option maxRecDepth 20000 in
theorem cl_L_look (d : Nat) (l0 : Nat) (l1 : Int32) (l2 : Int32) (l3 : Nat) (h : qH) : q_call q_MT (d + 1) 300 [.ref l0, .int l1, .int l2, .ref l3] h = q_run qm_L_look (q_call q_MT d) 0 [.ref l0, .int l1, .int l2, .ref l3, q_junk] [] h := q_call_s (M := qm_L_look) rfl rfl rfl
set_option maxRecDepth 20000 in
theorem cl_L_duel (d : Nat) (l0 : Nat) (l1 : Int32) (l2 : Int32) (l3 : Int32) (l4 : Nat) (h : qH) : q_call q_MT (d + 1) 301 [.ref l0, .int l1, .int l2, .int l3, .ref l4] h = q_run qm_L_duel (q_call q_MT d) 0 [.ref l0, .int l1, .int l2, .int l3, .ref l4, q_junk] [] h := q_call_s (M := qm_L_duel) rfl rfl rfl
set_option maxRecDepth 20000 in
theorem cl_L_panic (d : Nat) (l0 : Nat) (l1 : Int32) (l2 : Int32) (l3 : Nat) (h : qH) : q_call q_MT (d + 1) 302 [.ref l0, .int l1, .int l2, .ref l3] h = q_run qm_L_panic (q_call q_MT d) 0 [.ref l0, .int l1, .int l2, .ref l3, q_junk] [] h := q_call_s (M := qm_L_panic) rfl rfl rfl
set_option maxRecDepth 20000 in
theorem cl_L_level (d : Nat) (l0 : Nat) (l1 : Int32) (l2 : Int32) (l3 : Nat) (h : qH) : q_call q_MT (d + 1) 303 [.ref l0, .int l1, .int l2, .ref l3] h = q_run qm_L_level (q_call q_MT d) 0 [.ref l0, .int l1, .int l2, .ref l3, q_junk] [] h := q_call_s (M := qm_L_level) rfl rfl rfl
set_option maxRecDepth 20000 in
theorem cl_L_trust (d : Nat) (l0 : Nat) (l1 : Int32) (l2 : Nat) (h : qH) : q_call q_MT (d + 1) 304 [.ref l0, .int l1, .ref l2] h = q_run qm_L_trust (q_call q_MT d) 0 [.ref l0, .int l1, .ref l2, q_junk] [] h := q_call_s (M := qm_L_trust) rfl rfl rfl
set_option maxRecDepth 20000 in
theorem cl_L_richest (d : Nat) (l0 : Nat) (l1 : Int32) (l2 : Nat) (h : qH) : q_call q_MT (d + 1) 305 [.ref l0, .int l1, .ref l2] h = q_run qm_L_richest (q_call q_MT d) 0 [.ref l0, .int l1, .ref l2, q_junk] [] h := q_call_s (M := qm_L_richest) rfl rfl rfl
set_option maxRecDepth 20000 in
theorem cl_L_ahead (d : Nat) (l0 : Nat) (l1 : Int32) (l2 : Int32) (l3 : Nat) (h : qH) : q_call q_MT (d + 1) 306 [.ref l0, .int l1, .int l2, .ref l3] h = q_run qm_L_ahead (q_call q_MT d) 0 [.ref l0, .int l1, .int l2, .ref l3, q_junk] [] h := q_call_s (M := qm_L_ahead) rfl rfl rfl
set_option maxRecDepth 20000 in
theorem cl_L_season (d : Nat) (l0 : Nat) (l1 : Int32) (l2 : Int32) (l3 : Int32) (l4 : Int32) (l5 : Nat) (h : qH) : q_call q_MT (d + 1) 307 [.ref l0, .int l1, .int l2, .int l3, .int l4, .ref l5] h = q_run qm_L_season (q_call q_MT d) 0 [.ref l0, .int l1, .int l2, .int l3, .int l4, .ref l5, q_junk] [] h := q_call_s (M := qm_L_season) rfl rfl rfl
set_option maxRecDepth 20000 in
theorem cl_L_span (d : Nat) (l0 : Nat) (l1 : Int32) (l2 : Int32) (l3 : Int32) (l4 : Int32) (l5 : Int32) (l6 : Nat) (h : qH) : q_call q_MT (d + 1) 308 [.ref l0, .int l1, .int l2, .int l3, .int l4, .int l5, .ref l6] h = q_run qm_L_span (q_call q_MT d) 0 [.ref l0, .int l1, .int l2, .int l3, .int l4, .int l5, .ref l6, q_junk] [] h := q_call_s (M := qm_L_span) rfl rfl rfl
set_option maxRecDepth 20000 in
theorem cl_J6_bitCount_0f7a4 (d : Nat) (l0 : Int32) (h : qH) : q_call q_MT (d + 1) 310 [.int l0] h = q_run qm_J6_bitCount_0f7a4 (q_call q_MT d) 0 [.int l0] [] h := q_call_s (M := qm_J6_bitCount_0f7a4) rfl rfl rfl
