def q_P (mi : Nat) : Prop := q_kd.getD mi 9 ≠ 9 → ∃ M y bytes ret cw, q_MT[mi]? = some M ∧ q_mi[mi]? = some (y, bytes, ret) ∧ q_cws[mi]? = some cw ∧ q_mOK mi M y bytes ret cw ∧ q_thOK M y
theorem q_P0 : q_P 0 := fun _ => ⟨qm_X0_init, ⟨"WinkBank$Aim", "<init>", "(LWinkBank$Room;LWinkBank$Board;LWinkBank$Law;)V"⟩, prog_2_method_1_code, (Option.none : Option Jvm.ClassFile.FieldType), .code ⟨"WinkBank$Aim", "<init>", "(LWinkBank$Room;LWinkBank$Board;LWinkBank$Law;)V"⟩ prog_2_method_1_code 4 (Option.none : Option Jvm.ClassFile.FieldType), rfl, rfl, rfl, mm_X0_init, mt_X0_init⟩
theorem q_P1 : q_P 1 := fun _ => ⟨qm_X0_cupHit, ⟨"WinkBank$Aim", "cupHit", "(III)I"⟩, prog_2_method_2_code, (Option.some Jvm.ClassFile.FieldType.int), .code ⟨"WinkBank$Aim", "cupHit", "(III)I"⟩ prog_2_method_2_code 5 (Option.some Jvm.ClassFile.FieldType.int), rfl, rfl, rfl, mm_X0_cupHit, mt_X0_cupHit⟩
theorem q_P2 : q_P 2 := fun _ => ⟨qm_X0_paidFor, ⟨"WinkBank$Aim", "paidFor", "(III)I"⟩, prog_2_method_3_code, (Option.some Jvm.ClassFile.FieldType.int), .code ⟨"WinkBank$Aim", "paidFor", "(III)I"⟩ prog_2_method_3_code 5 (Option.some Jvm.ClassFile.FieldType.int), rfl, rfl, rfl, mm_X0_paidFor, mt_X0_paidFor⟩
theorem q_P3 : q_P 3 := fun _ => ⟨qm_X0_seekGain, ⟨"WinkBank$Aim", "seekGain", "(I)V"⟩, prog_2_method_4_code, (Option.none : Option Jvm.ClassFile.FieldType), .code ⟨"WinkBank$Aim", "seekGain", "(I)V"⟩ prog_2_method_4_code 3 (Option.none : Option Jvm.ClassFile.FieldType), rfl, rfl, rfl, mm_X0_seekGain, mt_X0_seekGain⟩
theorem q_P4 : q_P 4 := fun _ => ⟨qm_X0_seekGainOf, ⟨"WinkBank$Aim", "seekGainOf", "(I)V"⟩, prog_2_method_5_code, (Option.none : Option Jvm.ClassFile.FieldType), .code ⟨"WinkBank$Aim", "seekGainOf", "(I)V"⟩ prog_2_method_5_code 5 (Option.none : Option Jvm.ClassFile.FieldType), rfl, rfl, rfl, mm_X0_seekGainOf, mt_X0_seekGainOf⟩
theorem q_P5 : q_P 5 := fun _ => ⟨qm_X0_seekWay, ⟨"WinkBank$Aim", "seekWay", "(I)V"⟩, prog_2_method_6_code, (Option.none : Option Jvm.ClassFile.FieldType), .code ⟨"WinkBank$Aim", "seekWay", "(I)V"⟩ prog_2_method_6_code 3 (Option.none : Option Jvm.ClassFile.FieldType), rfl, rfl, rfl, mm_X0_seekWay, mt_X0_seekWay⟩
theorem q_P6 : q_P 6 := fun _ => ⟨qm_X0_reach, ⟨"WinkBank$Aim", "reach", "(III)V"⟩, prog_2_method_7_code, (Option.none : Option Jvm.ClassFile.FieldType), .code ⟨"WinkBank$Aim", "reach", "(III)V"⟩ prog_2_method_7_code 4 (Option.none : Option Jvm.ClassFile.FieldType), rfl, rfl, rfl, mm_X0_reach, mt_X0_reach⟩
theorem q_P7 : q_P 7 := fun _ => ⟨qm_X0_seekWayFrom, ⟨"WinkBank$Aim", "seekWayFrom", "(II)V"⟩, prog_2_method_8_code, (Option.none : Option Jvm.ClassFile.FieldType), .code ⟨"WinkBank$Aim", "seekWayFrom", "(II)V"⟩ prog_2_method_8_code 7 (Option.none : Option Jvm.ClassFile.FieldType), rfl, rfl, rfl, mm_X0_seekWayFrom, mt_X0_seekWayFrom⟩
theorem q_P8 : q_P 8 := fun _ => ⟨qm_X0_goOn, ⟨"WinkBank$Aim", "goOn", "(III)V"⟩, prog_2_method_9_code, (Option.none : Option Jvm.ClassFile.FieldType), .code ⟨"WinkBank$Aim", "goOn", "(III)V"⟩ prog_2_method_9_code 4 (Option.none : Option Jvm.ClassFile.FieldType), rfl, rfl, rfl, mm_X0_goOn, mt_X0_goOn⟩
theorem q_P9 : q_P 9 := fun _ => ⟨qm_X0_weighThumb, ⟨"WinkBank$Aim", "weighThumb", "(IIIZ)V"⟩, prog_2_method_10_code, (Option.none : Option Jvm.ClassFile.FieldType), .code ⟨"WinkBank$Aim", "weighThumb", "(IIIZ)V"⟩ prog_2_method_10_code 7 (Option.none : Option Jvm.ClassFile.FieldType), rfl, rfl, rfl, mm_X0_weighThumb, mt_X0_weighThumb⟩
theorem q_P10 : q_P 10 := fun _ => ⟨qm_X0_worthOf, ⟨"WinkBank$Aim", "worthOf", "(IIZ)I"⟩, prog_2_method_11_code, (Option.some Jvm.ClassFile.FieldType.int), .code ⟨"WinkBank$Aim", "worthOf", "(IIZ)I"⟩ prog_2_method_11_code 5 (Option.some Jvm.ClassFile.FieldType.int), rfl, rfl, rfl, mm_X0_worthOf, mt_X0_worthOf⟩
theorem q_P11 : q_P 11 := fun _ => ⟨qm_X0_giveCups, ⟨"WinkBank$Aim", "giveCups", "()I"⟩, prog_2_method_12_code, (Option.some Jvm.ClassFile.FieldType.int), .code ⟨"WinkBank$Aim", "giveCups", "()I"⟩ prog_2_method_12_code 5 (Option.some Jvm.ClassFile.FieldType.int), rfl, rfl, rfl, mm_X0_giveCups, mt_X0_giveCups⟩
theorem q_P12 : q_P 12 := fun _ => ⟨qm_X0_findComers, ⟨"WinkBank$Aim", "findComers", "()V"⟩, prog_2_method_13_code, (Option.none : Option Jvm.ClassFile.FieldType), .code ⟨"WinkBank$Aim", "findComers", "()V"⟩ prog_2_method_13_code 5 (Option.none : Option Jvm.ClassFile.FieldType), rfl, rfl, rfl, mm_X0_findComers, mt_X0_findComers⟩
theorem q_P13 : q_P 13 := fun _ => ⟨qm_X0_firstFor, ⟨"WinkBank$Aim", "firstFor", "(III)I"⟩, prog_2_method_14_code, (Option.some Jvm.ClassFile.FieldType.int), .code ⟨"WinkBank$Aim", "firstFor", "(III)I"⟩ prog_2_method_14_code 6 (Option.some Jvm.ClassFile.FieldType.int), rfl, rfl, rfl, mm_X0_firstFor, mt_X0_firstFor⟩
theorem q_P14 : q_P 14 := fun _ => ⟨qm_X0_bestFrom, ⟨"WinkBank$Aim", "bestFrom", "(II)I"⟩, prog_2_method_15_code, (Option.some Jvm.ClassFile.FieldType.int), .code ⟨"WinkBank$Aim", "bestFrom", "(II)I"⟩ prog_2_method_15_code 6 (Option.some Jvm.ClassFile.FieldType.int), rfl, rfl, rfl, mm_X0_bestFrom, mt_X0_bestFrom⟩
theorem q_P15 : q_P 15 := fun _ => ⟨qm_X0_paysOf, ⟨"WinkBank$Aim", "paysOf", "(I)I"⟩, prog_2_method_16_code, (Option.some Jvm.ClassFile.FieldType.int), .code ⟨"WinkBank$Aim", "paysOf", "(I)I"⟩ prog_2_method_16_code 4 (Option.some Jvm.ClassFile.FieldType.int), rfl, rfl, rfl, mm_X0_paysOf, mt_X0_paysOf⟩
theorem q_P16 : q_P 16 := fun _ => ⟨qm_X0_canAllBeGiven, ⟨"WinkBank$Aim", "canAllBeGiven", "(II)Z"⟩, prog_2_method_17_code, (Option.some Jvm.ClassFile.FieldType.boolean), .code ⟨"WinkBank$Aim", "canAllBeGiven", "(II)Z"⟩ prog_2_method_17_code 4 (Option.some Jvm.ClassFile.FieldType.boolean), rfl, rfl, rfl, mm_X0_canAllBeGiven, mt_X0_canAllBeGiven⟩
theorem q_P17 : q_P 17 := fun _ => ⟨qm_X0_comersOf, ⟨"WinkBank$Aim", "comersOf", "(I)I"⟩, prog_2_method_18_code, (Option.some Jvm.ClassFile.FieldType.int), .code ⟨"WinkBank$Aim", "comersOf", "(I)I"⟩ prog_2_method_18_code 4 (Option.some Jvm.ClassFile.FieldType.int), rfl, rfl, rfl, mm_X0_comersOf, mt_X0_comersOf⟩
theorem q_P18 : q_P 18 := fun _ => ⟨qm_X1_init, ⟨"WinkBank$Board", "<init>", "(LWinkBank$Room;LWinkBank$Law;)V"⟩, prog_3_method_1_code, (Option.none : Option Jvm.ClassFile.FieldType), .code ⟨"WinkBank$Board", "<init>", "(LWinkBank$Room;LWinkBank$Law;)V"⟩ prog_3_method_1_code 3 (Option.none : Option Jvm.ClassFile.FieldType), rfl, rfl, rfl, mm_X1_init, mt_X1_init⟩
theorem q_P19 : q_P 19 := fun _ => ⟨qm_X1_begin, ⟨"WinkBank$Board", "begin", "()V"⟩, prog_3_method_2_code, (Option.none : Option Jvm.ClassFile.FieldType), .code ⟨"WinkBank$Board", "begin", "()V"⟩ prog_3_method_2_code 2 (Option.none : Option Jvm.ClassFile.FieldType), rfl, rfl, rfl, mm_X1_begin, mt_X1_begin⟩
theorem q_P20 : q_P 20 := fun _ => ⟨qm_X1_save, ⟨"WinkBank$Board", "save", "([I)V"⟩, prog_3_method_3_code, (Option.none : Option Jvm.ClassFile.FieldType), .code ⟨"WinkBank$Board", "save", "([I)V"⟩ prog_3_method_3_code 2 (Option.none : Option Jvm.ClassFile.FieldType), rfl, rfl, rfl, mm_X1_save, mt_X1_save⟩
theorem q_P21 : q_P 21 := fun _ => ⟨qm_X1_load, ⟨"WinkBank$Board", "load", "([I)V"⟩, prog_3_method_4_code, (Option.none : Option Jvm.ClassFile.FieldType), .code ⟨"WinkBank$Board", "load", "([I)V"⟩ prog_3_method_4_code 3 (Option.none : Option Jvm.ClassFile.FieldType), rfl, rfl, rfl, mm_X1_load, mt_X1_load⟩
theorem q_P22 : q_P 22 := fun _ => ⟨qm_X1_isOnFelt, ⟨"WinkBank$Board", "isOnFelt", "(I)Z"⟩, prog_3_method_5_code, (Option.some Jvm.ClassFile.FieldType.boolean), .code ⟨"WinkBank$Board", "isOnFelt", "(I)Z"⟩ prog_3_method_5_code 2 (Option.some Jvm.ClassFile.FieldType.boolean), rfl, rfl, rfl, mm_X1_isOnFelt, mt_X1_isOnFelt⟩
theorem q_P23 : q_P 23 := fun _ => ⟨qm_X1_onTopOf, ⟨"WinkBank$Board", "onTopOf", "(I)I"⟩, prog_3_method_6_code, (Option.some Jvm.ClassFile.FieldType.int), .code ⟨"WinkBank$Board", "onTopOf", "(I)I"⟩ prog_3_method_6_code 3 (Option.some Jvm.ClassFile.FieldType.int), rfl, rfl, rfl, mm_X1_onTopOf, mt_X1_onTopOf⟩
theorem q_P24 : q_P 24 := fun _ => ⟨qm_X1_isFree, ⟨"WinkBank$Board", "isFree", "(I)Z"⟩, prog_3_method_7_code, (Option.some Jvm.ClassFile.FieldType.boolean), .code ⟨"WinkBank$Board", "isFree", "(I)Z"⟩ prog_3_method_7_code 2 (Option.some Jvm.ClassFile.FieldType.boolean), rfl, rfl, rfl, mm_X1_isFree, mt_X1_isFree⟩
theorem q_P25 : q_P 25 := fun _ => ⟨qm_X1_isFrozen, ⟨"WinkBank$Board", "isFrozen", "(I)Z"⟩, prog_3_method_8_code, (Option.some Jvm.ClassFile.FieldType.boolean), .code ⟨"WinkBank$Board", "isFrozen", "(I)Z"⟩ prog_3_method_8_code 2 (Option.some Jvm.ClassFile.FieldType.boolean), rfl, rfl, rfl, mm_X1_isFrozen, mt_X1_isFrozen⟩
theorem q_P26 : q_P 26 := fun _ => ⟨qm_X1_freeBits, ⟨"WinkBank$Board", "freeBits", "()I"⟩, prog_3_method_9_code, (Option.some Jvm.ClassFile.FieldType.int), .code ⟨"WinkBank$Board", "freeBits", "()I"⟩ prog_3_method_9_code 3 (Option.some Jvm.ClassFile.FieldType.int), rfl, rfl, rfl, mm_X1_freeBits, mt_X1_freeBits⟩
theorem q_P27 : q_P 27 := fun _ => ⟨qm_X1_frozenBits, ⟨"WinkBank$Board", "frozenBits", "()I"⟩, prog_3_method_10_code, (Option.some Jvm.ClassFile.FieldType.int), .code ⟨"WinkBank$Board", "frozenBits", "()I"⟩ prog_3_method_10_code 3 (Option.some Jvm.ClassFile.FieldType.int), rfl, rfl, rfl, mm_X1_frozenBits, mt_X1_frozenBits⟩
theorem q_P28 : q_P 28 := fun _ => ⟨qm_X1_inCupBits, ⟨"WinkBank$Board", "inCupBits", "()I"⟩, prog_3_method_11_code, (Option.some Jvm.ClassFile.FieldType.int), .code ⟨"WinkBank$Board", "inCupBits", "()I"⟩ prog_3_method_11_code 3 (Option.some Jvm.ClassFile.FieldType.int), rfl, rfl, rfl, mm_X1_inCupBits, mt_X1_inCupBits⟩
theorem q_P29 : q_P 29 := fun _ => ⟨qm_X1_floorBits, ⟨"WinkBank$Board", "floorBits", "()I"⟩, prog_3_method_12_code, (Option.some Jvm.ClassFile.FieldType.int), .code ⟨"WinkBank$Board", "floorBits", "()I"⟩ prog_3_method_12_code 3 (Option.some Jvm.ClassFile.FieldType.int), rfl, rfl, rfl, mm_X1_floorBits, mt_X1_floorBits⟩
theorem q_P30 : q_P 30 := fun _ => ⟨qm_X1_howManyIn, ⟨"WinkBank$Board", "howManyIn", "(I)I"⟩, prog_3_method_13_code, (Option.some Jvm.ClassFile.FieldType.int), .code ⟨"WinkBank$Board", "howManyIn", "(I)I"⟩ prog_3_method_13_code 4 (Option.some Jvm.ClassFile.FieldType.int), rfl, rfl, rfl, mm_X1_howManyIn, mt_X1_howManyIn⟩
theorem q_P31 : q_P 31 := fun _ => ⟨qm_X1_lyingAt, ⟨"WinkBank$Board", "lyingAt", "(II)I"⟩, prog_3_method_14_code, (Option.some Jvm.ClassFile.FieldType.int), .code ⟨"WinkBank$Board", "lyingAt", "(II)I"⟩ prog_3_method_14_code 4 (Option.some Jvm.ClassFile.FieldType.int), rfl, rfl, rfl, mm_X1_lyingAt, mt_X1_lyingAt⟩
theorem q_P32 : q_P 32 := fun _ => ⟨qm_X1_givenWithin, ⟨"WinkBank$Board", "givenWithin", "(I)I"⟩, prog_3_method_15_code, (Option.some Jvm.ClassFile.FieldType.int), .code ⟨"WinkBank$Board", "givenWithin", "(I)I"⟩ prog_3_method_15_code 4 (Option.some Jvm.ClassFile.FieldType.int), rfl, rfl, rfl, mm_X1_givenWithin, mt_X1_givenWithin⟩
theorem q_P33 : q_P 33 := fun _ => ⟨qm_X1_showLaw, ⟨"WinkBank$Board", "showLaw", "(I)V"⟩, prog_3_method_16_code, (Option.none : Option Jvm.ClassFile.FieldType), .code ⟨"WinkBank$Board", "showLaw", "(I)V"⟩ prog_3_method_16_code 2 (Option.none : Option Jvm.ClassFile.FieldType), rfl, rfl, rfl, mm_X1_showLaw, mt_X1_showLaw⟩
theorem q_P34 : q_P 34 := fun _ => ⟨qm_X1_flight, ⟨"WinkBank$Board", "flight", "(II)I"⟩, prog_3_method_17_code, (Option.some Jvm.ClassFile.FieldType.int), .code ⟨"WinkBank$Board", "flight", "(II)I"⟩ prog_3_method_17_code 3 (Option.some Jvm.ClassFile.FieldType.int), rfl, rfl, rfl, mm_X1_flight, mt_X1_flight⟩
theorem q_P35 : q_P 35 := fun _ => ⟨qm_X1_landing, ⟨"WinkBank$Board", "landing", "(III)I"⟩, prog_3_method_18_code, (Option.some Jvm.ClassFile.FieldType.int), .code ⟨"WinkBank$Board", "landing", "(III)I"⟩ prog_3_method_18_code 6 (Option.some Jvm.ClassFile.FieldType.int), rfl, rfl, rfl, mm_X1_landing, mt_X1_landing⟩
theorem q_P36 : q_P 36 := fun _ => ⟨qm_X1_fly, ⟨"WinkBank$Board", "fly", "(II)I"⟩, prog_3_method_19_code, (Option.some Jvm.ClassFile.FieldType.int), .code ⟨"WinkBank$Board", "fly", "(II)I"⟩ prog_3_method_19_code 5 (Option.some Jvm.ClassFile.FieldType.int), rfl, rfl, rfl, mm_X1_fly, mt_X1_fly⟩
theorem q_P37 : q_P 37 := fun _ => ⟨qm_X1_lift, ⟨"WinkBank$Board", "lift", "(I)V"⟩, prog_3_method_20_code, (Option.none : Option Jvm.ClassFile.FieldType), .code ⟨"WinkBank$Board", "lift", "(I)V"⟩ prog_3_method_20_code 4 (Option.none : Option Jvm.ClassFile.FieldType), rfl, rfl, rfl, mm_X1_lift, mt_X1_lift⟩
theorem q_P38 : q_P 38 := fun _ => ⟨qm_X1_layOnTop, ⟨"WinkBank$Board", "layOnTop", "(II)V"⟩, prog_3_method_21_code, (Option.none : Option Jvm.ClassFile.FieldType), .code ⟨"WinkBank$Board", "layOnTop", "(II)V"⟩ prog_3_method_21_code 3 (Option.none : Option Jvm.ClassFile.FieldType), rfl, rfl, rfl, mm_X1_layOnTop, mt_X1_layOnTop⟩
theorem q_P39 : q_P 39 := fun _ => ⟨qm_X1_flick, ⟨"WinkBank$Board", "flick", "(III)Z"⟩, prog_3_method_22_code, (Option.some Jvm.ClassFile.FieldType.boolean), .code ⟨"WinkBank$Board", "flick", "(III)Z"⟩ prog_3_method_22_code 7 (Option.some Jvm.ClassFile.FieldType.boolean), rfl, rfl, rfl, mm_X1_flick, mt_X1_flick⟩
theorem q_P40 : q_P 40 := fun _ => ⟨qm_X1_dampen, ⟨"WinkBank$Board", "dampen", "(I)Z"⟩, prog_3_method_23_code, (Option.some Jvm.ClassFile.FieldType.boolean), .code ⟨"WinkBank$Board", "dampen", "(I)Z"⟩ prog_3_method_23_code 3 (Option.some Jvm.ClassFile.FieldType.boolean), rfl, rfl, rfl, mm_X1_dampen, mt_X1_dampen⟩
theorem q_P41 : q_P 41 := fun _ => ⟨qm_X1_shakeAll, ⟨"WinkBank$Board", "shakeAll", "()Z"⟩, prog_3_method_24_code, (Option.some Jvm.ClassFile.FieldType.boolean), .code ⟨"WinkBank$Board", "shakeAll", "()Z"⟩ prog_3_method_24_code 3 (Option.some Jvm.ClassFile.FieldType.boolean), rfl, rfl, rfl, mm_X1_shakeAll, mt_X1_shakeAll⟩
theorem q_P42 : q_P 42 := fun _ => ⟨qm_X1_endDay, ⟨"WinkBank$Board", "endDay", "()Z"⟩, prog_3_method_25_code, (Option.some Jvm.ClassFile.FieldType.boolean), .code ⟨"WinkBank$Board", "endDay", "()Z"⟩ prog_3_method_25_code 1 (Option.some Jvm.ClassFile.FieldType.boolean), rfl, rfl, rfl, mm_X1_endDay, mt_X1_endDay⟩
theorem q_P43 : q_P 43 := fun _ => ⟨qm_X1_passDay, ⟨"WinkBank$Board", "passDay", "()V"⟩, prog_3_method_26_code, (Option.none : Option Jvm.ClassFile.FieldType), .code ⟨"WinkBank$Board", "passDay", "()V"⟩ prog_3_method_26_code 2 (Option.none : Option Jvm.ClassFile.FieldType), rfl, rfl, rfl, mm_X1_passDay, mt_X1_passDay⟩
theorem q_P44 : q_P 44 := fun _ => ⟨qm_X1_payRent, ⟨"WinkBank$Board", "payRent", "(I)V"⟩, prog_3_method_27_code, (Option.none : Option Jvm.ClassFile.FieldType), .code ⟨"WinkBank$Board", "payRent", "(I)V"⟩ prog_3_method_27_code 5 (Option.none : Option Jvm.ClassFile.FieldType), rfl, rfl, rfl, mm_X1_payRent, mt_X1_payRent⟩
theorem q_P45 : q_P 45 := fun _ => ⟨qm_X2_init, ⟨"WinkBank$Book", "<init>", "(LWinkBank$Board;LWinkBank$Law;)V"⟩, prog_4_method_1_code, (Option.none : Option Jvm.ClassFile.FieldType), .code ⟨"WinkBank$Book", "<init>", "(LWinkBank$Board;LWinkBank$Law;)V"⟩ prog_4_method_1_code 3 (Option.none : Option Jvm.ClassFile.FieldType), rfl, rfl, rfl, mm_X2_init, mt_X2_init⟩
theorem q_P46 : q_P 46 := fun _ => ⟨qm_X2_wipe, ⟨"WinkBank$Book", "wipe", "()V"⟩, prog_4_method_2_code, (Option.none : Option Jvm.ClassFile.FieldType), .code ⟨"WinkBank$Book", "wipe", "()V"⟩ prog_4_method_2_code 2 (Option.none : Option Jvm.ClassFile.FieldType), rfl, rfl, rfl, mm_X2_wipe, mt_X2_wipe⟩
theorem q_P47 : q_P 47 := fun _ => ⟨qm_X2_readFrom, ⟨"WinkBank$Book", "readFrom", "(LWinkBank$Text;)Z"⟩, prog_4_method_3_code, (Option.some Jvm.ClassFile.FieldType.boolean), .code ⟨"WinkBank$Book", "readFrom", "(LWinkBank$Text;)Z"⟩ prog_4_method_3_code 4 (Option.some Jvm.ClassFile.FieldType.boolean), rfl, rfl, rfl, mm_X2_readFrom, mt_X2_readFrom⟩
theorem q_P48 : q_P 48 := fun _ => ⟨qm_X2_readLine, ⟨"WinkBank$Book", "readLine", "(LWinkBank$Text;)Z"⟩, prog_4_method_4_code, (Option.some Jvm.ClassFile.FieldType.boolean), .code ⟨"WinkBank$Book", "readLine", "(LWinkBank$Text;)Z"⟩ prog_4_method_4_code 3 (Option.some Jvm.ClassFile.FieldType.boolean), rfl, rfl, rfl, mm_X2_readLine, mt_X2_readLine⟩
theorem q_P49 : q_P 49 := fun _ => ⟨qm_X2_seekPairs, ⟨"WinkBank$Book", "seekPairs", "(I)V"⟩, prog_4_method_5_code, (Option.none : Option Jvm.ClassFile.FieldType), .code ⟨"WinkBank$Book", "seekPairs", "(I)V"⟩ prog_4_method_5_code 3 (Option.none : Option Jvm.ClassFile.FieldType), rfl, rfl, rfl, mm_X2_seekPairs, mt_X2_seekPairs⟩
theorem q_P50 : q_P 50 := fun _ => ⟨qm_X2_isFitting, ⟨"WinkBank$Book", "isFitting", "(II)Z"⟩, prog_4_method_6_code, (Option.some Jvm.ClassFile.FieldType.boolean), .code ⟨"WinkBank$Book", "isFitting", "(II)Z"⟩ prog_4_method_6_code 4 (Option.some Jvm.ClassFile.FieldType.boolean), rfl, rfl, rfl, mm_X2_isFitting, mt_X2_isFitting⟩
theorem q_P51 : q_P 51 := fun _ => ⟨qm_X2_flightAsIf, ⟨"WinkBank$Book", "flightAsIf", "(III)I"⟩, prog_4_method_7_code, (Option.some Jvm.ClassFile.FieldType.int), .code ⟨"WinkBank$Book", "flightAsIf", "(III)I"⟩ prog_4_method_7_code 4 (Option.some Jvm.ClassFile.FieldType.int), rfl, rfl, rfl, mm_X2_flightAsIf, mt_X2_flightAsIf⟩
theorem q_P52 : q_P 52 := fun _ => ⟨qm_X2_seekPress, ⟨"WinkBank$Book", "seekPress", "(I)V"⟩, prog_4_method_8_code, (Option.none : Option Jvm.ClassFile.FieldType), .code ⟨"WinkBank$Book", "seekPress", "(I)V"⟩ prog_4_method_8_code 4 (Option.none : Option Jvm.ClassFile.FieldType), rfl, rfl, rfl, mm_X2_seekPress, mt_X2_seekPress⟩
theorem q_P53 : q_P 53 := fun _ => ⟨qm_X2_worstLeft, ⟨"WinkBank$Book", "worstLeft", "(II)I"⟩, prog_4_method_9_code, (Option.some Jvm.ClassFile.FieldType.int), .code ⟨"WinkBank$Book", "worstLeft", "(II)I"⟩ prog_4_method_9_code 6 (Option.some Jvm.ClassFile.FieldType.int), rfl, rfl, rfl, mm_X2_worstLeft, mt_X2_worstLeft⟩
theorem q_P54 : q_P 54 := fun _ => ⟨qm_X3_init, ⟨"WinkBank$Duel", "<init>", "(LWinkBank$Room;LWinkBank$Board;)V"⟩, prog_5_method_1_code, (Option.none : Option Jvm.ClassFile.FieldType), .code ⟨"WinkBank$Duel", "<init>", "(LWinkBank$Room;LWinkBank$Board;)V"⟩ prog_5_method_1_code 3 (Option.none : Option Jvm.ClassFile.FieldType), rfl, rfl, rfl, mm_X3_init, mt_X3_init⟩
theorem q_P55 : q_P 55 := fun _ => ⟨qm_X3_fight, ⟨"WinkBank$Duel", "fight", "(II)V"⟩, prog_5_method_2_code, (Option.none : Option Jvm.ClassFile.FieldType), .code ⟨"WinkBank$Duel", "fight", "(II)V"⟩ prog_5_method_2_code 5 (Option.none : Option Jvm.ClassFile.FieldType), rfl, rfl, rfl, mm_X3_fight, mt_X3_fight⟩
theorem q_P56 : q_P 56 := fun _ => ⟨qm_X3_measure, ⟨"WinkBank$Duel", "measure", "(I[I[I)V"⟩, prog_5_method_3_code, (Option.none : Option Jvm.ClassFile.FieldType), .code ⟨"WinkBank$Duel", "measure", "(I[I[I)V"⟩ prog_5_method_3_code 7 (Option.none : Option Jvm.ClassFile.FieldType), rfl, rfl, rfl, mm_X3_measure, mt_X3_measure⟩
theorem q_P57 : q_P 57 := fun _ => ⟨qm_X3_note, ⟨"WinkBank$Duel", "note", "(II)V"⟩, prog_5_method_4_code, (Option.none : Option Jvm.ClassFile.FieldType), .code ⟨"WinkBank$Duel", "note", "(II)V"⟩ prog_5_method_4_code 3 (Option.none : Option Jvm.ClassFile.FieldType), rfl, rfl, rfl, mm_X3_note, mt_X3_note⟩
theorem q_P58 : q_P 58 := fun _ => ⟨qm_X3_isRest, ⟨"WinkBank$Duel", "isRest", "(II)Z"⟩, prog_5_method_5_code, (Option.some Jvm.ClassFile.FieldType.boolean), .code ⟨"WinkBank$Duel", "isRest", "(II)Z"⟩ prog_5_method_5_code 6 (Option.some Jvm.ClassFile.FieldType.boolean), rfl, rfl, rfl, mm_X3_isRest, mt_X3_isRest⟩
theorem q_P59 : q_P 59 := fun _ => ⟨qm_X3_oneHas, ⟨"WinkBank$Duel", "oneHas", "(II)I"⟩, prog_5_method_6_code, (Option.some Jvm.ClassFile.FieldType.int), .code ⟨"WinkBank$Duel", "oneHas", "(II)I"⟩ prog_5_method_6_code 3 (Option.some Jvm.ClassFile.FieldType.int), rfl, rfl, rfl, mm_X3_oneHas, mt_X3_oneHas⟩
theorem q_P60 : q_P 60 := fun _ => ⟨qm_X3_otherHas, ⟨"WinkBank$Duel", "otherHas", "(II)I"⟩, prog_5_method_7_code, (Option.some Jvm.ClassFile.FieldType.int), .code ⟨"WinkBank$Duel", "otherHas", "(II)I"⟩ prog_5_method_7_code 3 (Option.some Jvm.ClassFile.FieldType.int), rfl, rfl, rfl, mm_X3_otherHas, mt_X3_otherHas⟩
theorem q_P61 : q_P 61 := fun _ => ⟨qm_X3_clash, ⟨"WinkBank$Duel", "clash", "(II)I"⟩, prog_5_method_8_code, (Option.some Jvm.ClassFile.FieldType.int), .code ⟨"WinkBank$Duel", "clash", "(II)I"⟩ prog_5_method_8_code 4 (Option.some Jvm.ClassFile.FieldType.int), rfl, rfl, rfl, mm_X3_clash, mt_X3_clash⟩
theorem q_P62 : q_P 62 := fun _ => ⟨qm_X4_init, ⟨"WinkBank$Kept", "<init>", "(LWinkBank$Kept;)V"⟩, prog_6_method_1_code, (Option.none : Option Jvm.ClassFile.FieldType), .code ⟨"WinkBank$Kept", "<init>", "(LWinkBank$Kept;)V"⟩ prog_6_method_1_code 2 (Option.none : Option Jvm.ClassFile.FieldType), rfl, rfl, rfl, mm_X4_init, mt_X4_init⟩
theorem q_P63 : q_P 63 := fun _ => ⟨qm_X5_init, ⟨"WinkBank$Law", "<init>", "()V"⟩, prog_7_method_1_code, (Option.none : Option Jvm.ClassFile.FieldType), .code ⟨"WinkBank$Law", "<init>", "()V"⟩ prog_7_method_1_code 1 (Option.none : Option Jvm.ClassFile.FieldType), rfl, rfl, rfl, mm_X5_init, mt_X5_init⟩
theorem q_P64 : q_P 64 := fun _ => ⟨qm_X5_setPlain, ⟨"WinkBank$Law", "setPlain", "()V"⟩, prog_7_method_2_code, (Option.none : Option Jvm.ClassFile.FieldType), .code ⟨"WinkBank$Law", "setPlain", "()V"⟩ prog_7_method_2_code 1 (Option.none : Option Jvm.ClassFile.FieldType), rfl, rfl, rfl, mm_X5_setPlain, mt_X5_setPlain⟩
theorem q_P65 : q_P 65 := fun _ => ⟨qm_X5_readFrom, ⟨"WinkBank$Law", "readFrom", "(LWinkBank$Text;)Z"⟩, prog_7_method_3_code, (Option.some Jvm.ClassFile.FieldType.boolean), .code ⟨"WinkBank$Law", "readFrom", "(LWinkBank$Text;)Z"⟩ prog_7_method_3_code 2 (Option.some Jvm.ClassFile.FieldType.boolean), rfl, rfl, rfl, mm_X5_readFrom, mt_X5_readFrom⟩
theorem q_P66 : q_P 66 := fun _ => ⟨qm_X5_readSum, ⟨"WinkBank$Law", "readSum", "(LWinkBank$Text;I)Z"⟩, prog_7_method_4_code, (Option.some Jvm.ClassFile.FieldType.boolean), .code ⟨"WinkBank$Law", "readSum", "(LWinkBank$Text;I)Z"⟩ prog_7_method_4_code 5 (Option.some Jvm.ClassFile.FieldType.boolean), rfl, rfl, rfl, mm_X5_readSum, mt_X5_readSum⟩
theorem q_P67 : q_P 67 := fun _ => ⟨qm_X5_readProduct, ⟨"WinkBank$Law", "readProduct", "(LWinkBank$Text;I)Z"⟩, prog_7_method_5_code, (Option.some Jvm.ClassFile.FieldType.boolean), .code ⟨"WinkBank$Law", "readProduct", "(LWinkBank$Text;I)Z"⟩ prog_7_method_5_code 5 (Option.some Jvm.ClassFile.FieldType.boolean), rfl, rfl, rfl, mm_X5_readProduct, mt_X5_readProduct⟩
theorem q_P68 : q_P 68 := fun _ => ⟨qm_X5_readUnit, ⟨"WinkBank$Law", "readUnit", "(LWinkBank$Text;I)Z"⟩, prog_7_method_6_code, (Option.some Jvm.ClassFile.FieldType.boolean), .code ⟨"WinkBank$Law", "readUnit", "(LWinkBank$Text;I)Z"⟩ prog_7_method_6_code 5 (Option.some Jvm.ClassFile.FieldType.boolean), rfl, rfl, rfl, mm_X5_readUnit, mt_X5_readUnit⟩
theorem q_P69 : q_P 69 := fun _ => ⟨qm_X5_readPair, ⟨"WinkBank$Law", "readPair", "(LWinkBank$Text;I)Z"⟩, prog_7_method_7_code, (Option.some Jvm.ClassFile.FieldType.boolean), .code ⟨"WinkBank$Law", "readPair", "(LWinkBank$Text;I)Z"⟩ prog_7_method_7_code 3 (Option.some Jvm.ClassFile.FieldType.boolean), rfl, rfl, rfl, mm_X5_readPair, mt_X5_readPair⟩
theorem q_P70 : q_P 70 := fun _ => ⟨qm_X5_whichSeen, ⟨"WinkBank$Law", "whichSeen", "(LWinkBank$Text;)I"⟩, prog_7_method_8_code, (Option.some Jvm.ClassFile.FieldType.int), .code ⟨"WinkBank$Law", "whichSeen", "(LWinkBank$Text;)I"⟩ prog_7_method_8_code 1 (Option.some Jvm.ClassFile.FieldType.int), rfl, rfl, rfl, mm_X5_whichSeen, mt_X5_whichSeen⟩
theorem q_P71 : q_P 71 := fun _ => ⟨qm_X5_emit, ⟨"WinkBank$Law", "emit", "(I)Z"⟩, prog_7_method_9_code, (Option.some Jvm.ClassFile.FieldType.boolean), .code ⟨"WinkBank$Law", "emit", "(I)Z"⟩ prog_7_method_9_code 2 (Option.some Jvm.ClassFile.FieldType.boolean), rfl, rfl, rfl, mm_X5_emit, mt_X5_emit⟩
theorem q_P72 : q_P 72 := fun _ => ⟨qm_X5_flightBy, ⟨"WinkBank$Law", "flightBy", "(I)I"⟩, prog_7_method_10_code, (Option.some Jvm.ClassFile.FieldType.int), .code ⟨"WinkBank$Law", "flightBy", "(I)I"⟩ prog_7_method_10_code 5 (Option.some Jvm.ClassFile.FieldType.int), rfl, rfl, rfl, mm_X5_flightBy, mt_X5_flightBy⟩
theorem q_P73 : q_P 73 := fun _ => ⟨qm_X5_worked, ⟨"WinkBank$Law", "worked", "(III)I"⟩, prog_7_method_11_code, (Option.some Jvm.ClassFile.FieldType.int), .code ⟨"WinkBank$Law", "worked", "(III)I"⟩ prog_7_method_11_code 3 (Option.some Jvm.ClassFile.FieldType.int), rfl, rfl, rfl, mm_X5_worked, mt_X5_worked⟩
theorem q_P74 : q_P 74 := fun _ => ⟨qm_X6_init, ⟨"WinkBank$Room", "<init>", "()V"⟩, prog_8_method_1_code, (Option.none : Option Jvm.ClassFile.FieldType), .code ⟨"WinkBank$Room", "<init>", "()V"⟩ prog_8_method_1_code 1 (Option.none : Option Jvm.ClassFile.FieldType), rfl, rfl, rfl, mm_X6_init, mt_X6_init⟩
theorem q_P75 : q_P 75 := fun _ => ⟨qm_X6_clear, ⟨"WinkBank$Room", "clear", "()V"⟩, prog_8_method_2_code, (Option.none : Option Jvm.ClassFile.FieldType), .code ⟨"WinkBank$Room", "clear", "()V"⟩ prog_8_method_2_code 1 (Option.none : Option Jvm.ClassFile.FieldType), rfl, rfl, rfl, mm_X6_clear, mt_X6_clear⟩
theorem q_P76 : q_P 76 := fun _ => ⟨qm_X6_copyFrom, ⟨"WinkBank$Room", "copyFrom", "(LWinkBank$Room;)V"⟩, prog_8_method_3_code, (Option.none : Option Jvm.ClassFile.FieldType), .code ⟨"WinkBank$Room", "copyFrom", "(LWinkBank$Room;)V"⟩ prog_8_method_3_code 2 (Option.none : Option Jvm.ClassFile.FieldType), rfl, rfl, rfl, mm_X6_copyFrom, mt_X6_copyFrom⟩
theorem q_P77 : q_P 77 := fun _ => ⟨qm_X6_winksOf, ⟨"WinkBank$Room", "winksOf", "(I)I"⟩, prog_8_method_4_code, (Option.some Jvm.ClassFile.FieldType.int), .code ⟨"WinkBank$Room", "winksOf", "(I)I"⟩ prog_8_method_4_code 4 (Option.some Jvm.ClassFile.FieldType.int), rfl, rfl, rfl, mm_X6_winksOf, mt_X6_winksOf⟩
theorem q_P78 : q_P 78 := fun _ => ⟨qm_X6_cupAt, ⟨"WinkBank$Room", "cupAt", "(I)I"⟩, prog_8_method_5_code, (Option.some Jvm.ClassFile.FieldType.int), .code ⟨"WinkBank$Room", "cupAt", "(I)I"⟩ prog_8_method_5_code 3 (Option.some Jvm.ClassFile.FieldType.int), rfl, rfl, rfl, mm_X6_cupAt, mt_X6_cupAt⟩
theorem q_P79 : q_P 79 := fun _ => ⟨qm_X6_readFrom, ⟨"WinkBank$Room", "readFrom", "(LWinkBank$Text;)Z"⟩, prog_8_method_6_code, (Option.some Jvm.ClassFile.FieldType.boolean), .code ⟨"WinkBank$Room", "readFrom", "(LWinkBank$Text;)Z"⟩ prog_8_method_6_code 3 (Option.some Jvm.ClassFile.FieldType.boolean), rfl, rfl, rfl, mm_X6_readFrom, mt_X6_readFrom⟩
theorem q_P80 : q_P 80 := fun _ => ⟨qm_X6_readClause, ⟨"WinkBank$Room", "readClause", "(LWinkBank$Text;Z)Z"⟩, prog_8_method_7_code, (Option.some Jvm.ClassFile.FieldType.boolean), .code ⟨"WinkBank$Room", "readClause", "(LWinkBank$Text;Z)Z"⟩ prog_8_method_7_code 3 (Option.some Jvm.ClassFile.FieldType.boolean), rfl, rfl, rfl, mm_X6_readClause, mt_X6_readClause⟩
theorem q_P81 : q_P 81 := fun _ => ⟨qm_X6_readHouse, ⟨"WinkBank$Room", "readHouse", "(LWinkBank$Text;)Z"⟩, prog_8_method_8_code, (Option.some Jvm.ClassFile.FieldType.boolean), .code ⟨"WinkBank$Room", "readHouse", "(LWinkBank$Text;)Z"⟩ prog_8_method_8_code 2 (Option.some Jvm.ClassFile.FieldType.boolean), rfl, rfl, rfl, mm_X6_readHouse, mt_X6_readHouse⟩
theorem q_P82 : q_P 82 := fun _ => ⟨qm_X6_readFelt, ⟨"WinkBank$Room", "readFelt", "(LWinkBank$Text;)Z"⟩, prog_8_method_9_code, (Option.some Jvm.ClassFile.FieldType.boolean), .code ⟨"WinkBank$Room", "readFelt", "(LWinkBank$Text;)Z"⟩ prog_8_method_9_code 2 (Option.some Jvm.ClassFile.FieldType.boolean), rfl, rfl, rfl, mm_X6_readFelt, mt_X6_readFelt⟩
theorem q_P83 : q_P 83 := fun _ => ⟨qm_X6_readNap, ⟨"WinkBank$Room", "readNap", "(LWinkBank$Text;)Z"⟩, prog_8_method_10_code, (Option.some Jvm.ClassFile.FieldType.boolean), .code ⟨"WinkBank$Room", "readNap", "(LWinkBank$Text;)Z"⟩ prog_8_method_10_code 2 (Option.some Jvm.ClassFile.FieldType.boolean), rfl, rfl, rfl, mm_X6_readNap, mt_X6_readNap⟩
theorem q_P84 : q_P 84 := fun _ => ⟨qm_X6_readWink, ⟨"WinkBank$Room", "readWink", "(LWinkBank$Text;)Z"⟩, prog_8_method_11_code, (Option.some Jvm.ClassFile.FieldType.boolean), .code ⟨"WinkBank$Room", "readWink", "(LWinkBank$Text;)Z"⟩ prog_8_method_11_code 2 (Option.some Jvm.ClassFile.FieldType.boolean), rfl, rfl, rfl, mm_X6_readWink, mt_X6_readWink⟩
theorem q_P85 : q_P 85 := fun _ => ⟨qm_X6_readCup, ⟨"WinkBank$Room", "readCup", "(LWinkBank$Text;)Z"⟩, prog_8_method_12_code, (Option.some Jvm.ClassFile.FieldType.boolean), .code ⟨"WinkBank$Room", "readCup", "(LWinkBank$Text;)Z"⟩ prog_8_method_12_code 2 (Option.some Jvm.ClassFile.FieldType.boolean), rfl, rfl, rfl, mm_X6_readCup, mt_X6_readCup⟩
theorem q_P86 : q_P 86 := fun _ => ⟨qm_X6_allOnFelt, ⟨"WinkBank$Room", "allOnFelt", "()Z"⟩, prog_8_method_13_code, (Option.some Jvm.ClassFile.FieldType.boolean), .code ⟨"WinkBank$Room", "allOnFelt", "()Z"⟩ prog_8_method_13_code 2 (Option.some Jvm.ClassFile.FieldType.boolean), rfl, rfl, rfl, mm_X6_allOnFelt, mt_X6_allOnFelt⟩
theorem q_P87 : q_P 87 := fun _ => ⟨qm_X7_init, ⟨"WinkBank$Season", "<init>", "(LWinkBank$Room;LWinkBank$Board;)V"⟩, prog_9_method_1_code, (Option.none : Option Jvm.ClassFile.FieldType), .code ⟨"WinkBank$Season", "<init>", "(LWinkBank$Room;LWinkBank$Board;)V"⟩ prog_9_method_1_code 3 (Option.none : Option Jvm.ClassFile.FieldType), rfl, rfl, rfl, mm_X7_init, mt_X7_init⟩
theorem q_P88 : q_P 88 := fun _ => ⟨qm_X7_run, ⟨"WinkBank$Season", "run", "(III)V"⟩, prog_9_method_2_code, (Option.none : Option Jvm.ClassFile.FieldType), .code ⟨"WinkBank$Season", "run", "(III)V"⟩ prog_9_method_2_code 8 (Option.none : Option Jvm.ClassFile.FieldType), rfl, rfl, rfl, mm_X7_run, mt_X7_run⟩
theorem q_P89 : q_P 89 := fun _ => ⟨qm_X7_draw, ⟨"WinkBank$Season", "draw", "(I)I"⟩, prog_9_method_3_code, (Option.some Jvm.ClassFile.FieldType.int), .code ⟨"WinkBank$Season", "draw", "(I)I"⟩ prog_9_method_3_code 2 (Option.some Jvm.ClassFile.FieldType.int), rfl, rfl, rfl, mm_X7_draw, mt_X7_draw⟩
theorem q_P90 : q_P 90 := fun _ => ⟨qm_X8_init, ⟨"WinkBank$Steps", "<init>", "()V"⟩, prog_10_method_1_code, (Option.none : Option Jvm.ClassFile.FieldType), .code ⟨"WinkBank$Steps", "<init>", "()V"⟩ prog_10_method_1_code 1 (Option.none : Option Jvm.ClassFile.FieldType), rfl, rfl, rfl, mm_X8_init, mt_X8_init⟩
theorem q_P91 : q_P 91 := fun _ => ⟨qm_X8_readFrom, ⟨"WinkBank$Steps", "readFrom", "(LWinkBank$Text;I)Z"⟩, prog_10_method_2_code, (Option.some Jvm.ClassFile.FieldType.boolean), .code ⟨"WinkBank$Steps", "readFrom", "(LWinkBank$Text;I)Z"⟩ prog_10_method_2_code 3 (Option.some Jvm.ClassFile.FieldType.boolean), rfl, rfl, rfl, mm_X8_readFrom, mt_X8_readFrom⟩
theorem q_P92 : q_P 92 := fun _ => ⟨qm_X8_readRow, ⟨"WinkBank$Steps", "readRow", "(LWinkBank$Text;I)Z"⟩, prog_10_method_3_code, (Option.some Jvm.ClassFile.FieldType.boolean), .code ⟨"WinkBank$Steps", "readRow", "(LWinkBank$Text;I)Z"⟩ prog_10_method_3_code 5 (Option.some Jvm.ClassFile.FieldType.boolean), rfl, rfl, rfl, mm_X8_readRow, mt_X8_readRow⟩
theorem q_P93 : q_P 93 := fun _ => ⟨qm_X8_readStep, ⟨"WinkBank$Steps", "readStep", "(LWinkBank$Text;I)Z"⟩, prog_10_method_4_code, (Option.some Jvm.ClassFile.FieldType.boolean), .code ⟨"WinkBank$Steps", "readStep", "(LWinkBank$Text;I)Z"⟩ prog_10_method_4_code 3 (Option.some Jvm.ClassFile.FieldType.boolean), rfl, rfl, rfl, mm_X8_readStep, mt_X8_readStep⟩
theorem q_P94 : q_P 94 := fun _ => ⟨qm_X8_readFlick, ⟨"WinkBank$Steps", "readFlick", "(LWinkBank$Text;I)Z"⟩, prog_10_method_5_code, (Option.some Jvm.ClassFile.FieldType.boolean), .code ⟨"WinkBank$Steps", "readFlick", "(LWinkBank$Text;I)Z"⟩ prog_10_method_5_code 4 (Option.some Jvm.ClassFile.FieldType.boolean), rfl, rfl, rfl, mm_X8_readFlick, mt_X8_readFlick⟩
theorem q_P95 : q_P 95 := fun _ => ⟨qm_X8_readAgain, ⟨"WinkBank$Steps", "readAgain", "(LWinkBank$Text;I)Z"⟩, prog_10_method_6_code, (Option.some Jvm.ClassFile.FieldType.boolean), .code ⟨"WinkBank$Steps", "readAgain", "(LWinkBank$Text;I)Z"⟩ prog_10_method_6_code 4 (Option.some Jvm.ClassFile.FieldType.boolean), rfl, rfl, rfl, mm_X8_readAgain, mt_X8_readAgain⟩
theorem q_P96 : q_P 96 := fun _ => ⟨qm_X8_add, ⟨"WinkBank$Steps", "add", "(III)Z"⟩, prog_10_method_7_code, (Option.some Jvm.ClassFile.FieldType.boolean), .code ⟨"WinkBank$Steps", "add", "(III)Z"⟩ prog_10_method_7_code 4 (Option.some Jvm.ClassFile.FieldType.boolean), rfl, rfl, rfl, mm_X8_add, mt_X8_add⟩
theorem q_P97 : q_P 97 := fun _ => ⟨qm_X8_run, ⟨"WinkBank$Steps", "run", "(LWinkBank$Board;)V"⟩, prog_10_method_8_code, (Option.none : Option Jvm.ClassFile.FieldType), .code ⟨"WinkBank$Steps", "run", "(LWinkBank$Board;)V"⟩ prog_10_method_8_code 2 (Option.none : Option Jvm.ClassFile.FieldType), rfl, rfl, rfl, mm_X8_run, mt_X8_run⟩
theorem q_P98 : q_P 98 := fun _ => ⟨qm_X8_runRow, ⟨"WinkBank$Steps", "runRow", "(LWinkBank$Board;III)V"⟩, prog_10_method_9_code, (Option.none : Option Jvm.ClassFile.FieldType), .code ⟨"WinkBank$Steps", "runRow", "(LWinkBank$Board;III)V"⟩ prog_10_method_9_code 7 (Option.none : Option Jvm.ClassFile.FieldType), rfl, rfl, rfl, mm_X8_runRow, mt_X8_runRow⟩
theorem q_P99 : q_P 99 := fun _ => ⟨qm_X8_isDone, ⟨"WinkBank$Steps", "isDone", "(LWinkBank$Board;III)Z"⟩, prog_10_method_10_code, (Option.some Jvm.ClassFile.FieldType.boolean), .code ⟨"WinkBank$Steps", "isDone", "(LWinkBank$Board;III)Z"⟩ prog_10_method_10_code 4 (Option.some Jvm.ClassFile.FieldType.boolean), rfl, rfl, rfl, mm_X8_isDone, mt_X8_isDone⟩
theorem q_P100 : q_P 100 := fun _ => ⟨qm_X9_init, ⟨"WinkBank$Text", "<init>", "()V"⟩, prog_11_method_1_code, (Option.none : Option Jvm.ClassFile.FieldType), .code ⟨"WinkBank$Text", "<init>", "()V"⟩ prog_11_method_1_code 1 (Option.none : Option Jvm.ClassFile.FieldType), rfl, rfl, rfl, mm_X9_init, mt_X9_init⟩
theorem q_P101 : q_P 101 := fun _ => ⟨qm_X9_put, ⟨"WinkBank$Text", "put", "(I)V"⟩, prog_11_method_2_code, (Option.none : Option Jvm.ClassFile.FieldType), .code ⟨"WinkBank$Text", "put", "(I)V"⟩ prog_11_method_2_code 3 (Option.none : Option Jvm.ClassFile.FieldType), rfl, rfl, rfl, mm_X9_put, mt_X9_put⟩
theorem q_P102 : q_P 102 := fun _ => ⟨qm_X9_open, ⟨"WinkBank$Text", "open", "(I)V"⟩, prog_11_method_3_code, (Option.none : Option Jvm.ClassFile.FieldType), .code ⟨"WinkBank$Text", "open", "(I)V"⟩ prog_11_method_3_code 2 (Option.none : Option Jvm.ClassFile.FieldType), rfl, rfl, rfl, mm_X9_open, mt_X9_open⟩
theorem q_P103 : q_P 103 := fun _ => ⟨qm_X9_answer, ⟨"WinkBank$Text", "answer", "()I"⟩, prog_11_method_4_code, (Option.some Jvm.ClassFile.FieldType.int), .code ⟨"WinkBank$Text", "answer", "()I"⟩ prog_11_method_4_code 1 (Option.some Jvm.ClassFile.FieldType.int), rfl, rfl, rfl, mm_X9_answer, mt_X9_answer⟩
theorem q_P104 : q_P 104 := fun _ => ⟨qm_X9_fail, ⟨"WinkBank$Text", "fail", "(II)Z"⟩, prog_11_method_5_code, (Option.some Jvm.ClassFile.FieldType.boolean), .code ⟨"WinkBank$Text", "fail", "(II)Z"⟩ prog_11_method_5_code 3 (Option.some Jvm.ClassFile.FieldType.boolean), rfl, rfl, rfl, mm_X9_fail, mt_X9_fail⟩
theorem q_P105 : q_P 105 := fun _ => ⟨qm_X9_peek, ⟨"WinkBank$Text", "peek", "()I"⟩, prog_11_method_6_code, (Option.some Jvm.ClassFile.FieldType.int), .code ⟨"WinkBank$Text", "peek", "()I"⟩ prog_11_method_6_code 1 (Option.some Jvm.ClassFile.FieldType.int), rfl, rfl, rfl, mm_X9_peek, mt_X9_peek⟩
theorem q_P106 : q_P 106 := fun _ => ⟨qm_X9_pass, ⟨"WinkBank$Text", "pass", "()V"⟩, prog_11_method_7_code, (Option.none : Option Jvm.ClassFile.FieldType), .code ⟨"WinkBank$Text", "pass", "()V"⟩ prog_11_method_7_code 1 (Option.none : Option Jvm.ClassFile.FieldType), rfl, rfl, rfl, mm_X9_pass, mt_X9_pass⟩
theorem q_P107 : q_P 107 := fun _ => ⟨qm_X9_sign, ⟨"WinkBank$Text", "sign", "(C)Z"⟩, prog_11_method_8_code, (Option.some Jvm.ClassFile.FieldType.boolean), .code ⟨"WinkBank$Text", "sign", "(C)Z"⟩ prog_11_method_8_code 2 (Option.some Jvm.ClassFile.FieldType.boolean), rfl, rfl, rfl, mm_X9_sign, mt_X9_sign⟩
theorem q_P108 : q_P 108 := fun _ => ⟨qm_X9_number, ⟨"WinkBank$Text", "number", "(II)Z"⟩, prog_11_method_9_code, (Option.some Jvm.ClassFile.FieldType.boolean), .code ⟨"WinkBank$Text", "number", "(II)Z"⟩ prog_11_method_9_code 4 (Option.some Jvm.ClassFile.FieldType.boolean), rfl, rfl, rfl, mm_X9_number, mt_X9_number⟩
theorem q_P109 : q_P 109 := fun _ => ⟨qm_X9_word, ⟨"WinkBank$Text", "word", "()Z"⟩, prog_11_method_10_code, (Option.some Jvm.ClassFile.FieldType.boolean), .code ⟨"WinkBank$Text", "word", "()Z"⟩ prog_11_method_10_code 1 (Option.some Jvm.ClassFile.FieldType.boolean), rfl, rfl, rfl, mm_X9_word, mt_X9_word⟩
theorem q_P110 : q_P 110 := fun _ => ⟨qm_X9_wordIs, ⟨"WinkBank$Text", "wordIs", "(Ljava/lang/String;)Z"⟩, prog_11_method_11_code, (Option.some Jvm.ClassFile.FieldType.boolean), .code ⟨"WinkBank$Text", "wordIs", "(Ljava/lang/String;)Z"⟩ prog_11_method_11_code 4 (Option.some Jvm.ClassFile.FieldType.boolean), rfl, rfl, rfl, mm_X9_wordIs, mt_X9_wordIs⟩
theorem q_P111 : q_P 111 := fun _ => ⟨qm_X9_allow, ⟨"WinkBank$Text", "allow", "(Z)Z"⟩, prog_11_method_12_code, (Option.some Jvm.ClassFile.FieldType.boolean), .code ⟨"WinkBank$Text", "allow", "(Z)Z"⟩ prog_11_method_12_code 2 (Option.some Jvm.ClassFile.FieldType.boolean), rfl, rfl, rfl, mm_X9_allow, mt_X9_allow⟩
theorem q_P112 : q_P 112 := fun _ => ⟨qm_X10_init, ⟨"WinkBank", "<init>", "()V"⟩, prog_1_method_1_code, (Option.none : Option Jvm.ClassFile.FieldType), .code ⟨"WinkBank", "<init>", "()V"⟩ prog_1_method_1_code 1 (Option.none : Option Jvm.ClassFile.FieldType), rfl, rfl, rfl, mm_X10_init, mt_X10_init⟩
theorem q_P113 : q_P 113 := fun _ => ⟨qm_X10_feed, ⟨"WinkBank", "feed", "(IIIII)I"⟩, prog_1_method_2_code, (Option.some Jvm.ClassFile.FieldType.int), .code ⟨"WinkBank", "feed", "(IIIII)I"⟩ prog_1_method_2_code 6 (Option.some Jvm.ClassFile.FieldType.int), rfl, rfl, rfl, mm_X10_feed, mt_X10_feed⟩
theorem q_P114 : q_P 114 := fun _ => ⟨qm_X10_room, ⟨"WinkBank", "room", "(I)I"⟩, prog_1_method_3_code, (Option.some Jvm.ClassFile.FieldType.int), .code ⟨"WinkBank", "room", "(I)I"⟩ prog_1_method_3_code 2 (Option.some Jvm.ClassFile.FieldType.int), rfl, rfl, rfl, mm_X10_room, mt_X10_room⟩
theorem q_P115 : q_P 115 := fun _ => ⟨qm_X10_law, ⟨"WinkBank", "law", "(I)I"⟩, prog_1_method_4_code, (Option.some Jvm.ClassFile.FieldType.int), .code ⟨"WinkBank", "law", "(I)I"⟩ prog_1_method_4_code 2 (Option.some Jvm.ClassFile.FieldType.int), rfl, rfl, rfl, mm_X10_law, mt_X10_law⟩
theorem q_P116 : q_P 116 := fun _ => ⟨qm_X10_play, ⟨"WinkBank", "play", "(I)I"⟩, prog_1_method_5_code, (Option.some Jvm.ClassFile.FieldType.int), .code ⟨"WinkBank", "play", "(I)I"⟩ prog_1_method_5_code 2 (Option.some Jvm.ClassFile.FieldType.int), rfl, rfl, rfl, mm_X10_play, mt_X10_play⟩
theorem q_P117 : q_P 117 := fun _ => ⟨qm_X10_book, ⟨"WinkBank", "book", "(I)I"⟩, prog_1_method_6_code, (Option.some Jvm.ClassFile.FieldType.int), .code ⟨"WinkBank", "book", "(I)I"⟩ prog_1_method_6_code 2 (Option.some Jvm.ClassFile.FieldType.int), rfl, rfl, rfl, mm_X10_book, mt_X10_book⟩
theorem q_P118 : q_P 118 := fun _ => ⟨qm_X10_fault, ⟨"WinkBank", "fault", "()I"⟩, prog_1_method_7_code, (Option.some Jvm.ClassFile.FieldType.int), .code ⟨"WinkBank", "fault", "()I"⟩ prog_1_method_7_code 1 (Option.some Jvm.ClassFile.FieldType.int), rfl, rfl, rfl, mm_X10_fault, mt_X10_fault⟩
theorem q_P119 : q_P 119 := fun _ => ⟨qm_X10_told, ⟨"WinkBank", "told", "(I)I"⟩, prog_1_method_8_code, (Option.some Jvm.ClassFile.FieldType.int), .code ⟨"WinkBank", "told", "(I)I"⟩ prog_1_method_8_code 2 (Option.some Jvm.ClassFile.FieldType.int), rfl, rfl, rfl, mm_X10_told, mt_X10_told⟩
theorem q_P120 : q_P 120 := fun _ => ⟨qm_X10_house, ⟨"WinkBank", "house", "(II)I"⟩, prog_1_method_9_code, (Option.some Jvm.ClassFile.FieldType.int), .code ⟨"WinkBank", "house", "(II)I"⟩ prog_1_method_9_code 4 (Option.some Jvm.ClassFile.FieldType.int), rfl, rfl, rfl, mm_X10_house, mt_X10_house⟩
theorem q_P121 : q_P 121 := fun _ => ⟨qm_X10_wink, ⟨"WinkBank", "wink", "(II)I"⟩, prog_1_method_10_code, (Option.some Jvm.ClassFile.FieldType.int), .code ⟨"WinkBank", "wink", "(II)I"⟩ prog_1_method_10_code 3 (Option.some Jvm.ClassFile.FieldType.int), rfl, rfl, rfl, mm_X10_wink, mt_X10_wink⟩
theorem q_P122 : q_P 122 := fun _ => ⟨qm_X10_cup, ⟨"WinkBank", "cup", "(II)I"⟩, prog_1_method_11_code, (Option.some Jvm.ClassFile.FieldType.int), .code ⟨"WinkBank", "cup", "(II)I"⟩ prog_1_method_11_code 3 (Option.some Jvm.ClassFile.FieldType.int), rfl, rfl, rfl, mm_X10_cup, mt_X10_cup⟩
theorem q_P123 : q_P 123 := fun _ => ⟨qm_X10_cell, ⟨"WinkBank", "cell", "(II)I"⟩, prog_1_method_12_code, (Option.some Jvm.ClassFile.FieldType.int), .code ⟨"WinkBank", "cell", "(II)I"⟩ prog_1_method_12_code 3 (Option.some Jvm.ClassFile.FieldType.int), rfl, rfl, rfl, mm_X10_cell, mt_X10_cell⟩
theorem q_P124 : q_P 124 := fun _ => ⟨qm_X10_trust, ⟨"WinkBank", "trust", "(I)I"⟩, prog_1_method_13_code, (Option.some Jvm.ClassFile.FieldType.int), .code ⟨"WinkBank", "trust", "(I)I"⟩ prog_1_method_13_code 5 (Option.some Jvm.ClassFile.FieldType.int), rfl, rfl, rfl, mm_X10_trust, mt_X10_trust⟩
theorem q_P125 : q_P 125 := fun _ => ⟨qm_X10_flies, ⟨"WinkBank", "flies", "(II)I"⟩, prog_1_method_14_code, (Option.some Jvm.ClassFile.FieldType.int), .code ⟨"WinkBank", "flies", "(II)I"⟩ prog_1_method_14_code 3 (Option.some Jvm.ClassFile.FieldType.int), rfl, rfl, rfl, mm_X10_flies, mt_X10_flies⟩
theorem q_P126 : q_P 126 := fun _ => ⟨qm_X10_would, ⟨"WinkBank", "would", "(IIIIIIIII)I"⟩, prog_1_method_15_code, (Option.some Jvm.ClassFile.FieldType.int), .code ⟨"WinkBank", "would", "(IIIIIIIII)I"⟩ prog_1_method_15_code 10 (Option.some Jvm.ClassFile.FieldType.int), rfl, rfl, rfl, mm_X10_would, mt_X10_would⟩
theorem q_P127 : q_P 127 := fun _ => ⟨qm_X10_down, ⟨"WinkBank", "down", "(III)I"⟩, prog_1_method_16_code, (Option.some Jvm.ClassFile.FieldType.int), .code ⟨"WinkBank", "down", "(III)I"⟩ prog_1_method_16_code 4 (Option.some Jvm.ClassFile.FieldType.int), rfl, rfl, rfl, mm_X10_down, mt_X10_down⟩
theorem q_P128 : q_P 128 := fun _ => ⟨qm_X10_presses, ⟨"WinkBank", "presses", "(II)I"⟩, prog_1_method_17_code, (Option.some Jvm.ClassFile.FieldType.int), .code ⟨"WinkBank", "presses", "(II)I"⟩ prog_1_method_17_code 5 (Option.some Jvm.ClassFile.FieldType.int), rfl, rfl, rfl, mm_X10_presses, mt_X10_presses⟩
theorem q_P129 : q_P 129 := fun _ => ⟨qm_X10_gain, ⟨"WinkBank", "gain", "(II)I"⟩, prog_1_method_18_code, (Option.some Jvm.ClassFile.FieldType.int), .code ⟨"WinkBank", "gain", "(II)I"⟩ prog_1_method_18_code 3 (Option.some Jvm.ClassFile.FieldType.int), rfl, rfl, rfl, mm_X10_gain, mt_X10_gain⟩
theorem q_P130 : q_P 130 := fun _ => ⟨qm_X10_way, ⟨"WinkBank", "way", "(II)I"⟩, prog_1_method_19_code, (Option.some Jvm.ClassFile.FieldType.int), .code ⟨"WinkBank", "way", "(II)I"⟩ prog_1_method_19_code 3 (Option.some Jvm.ClassFile.FieldType.int), rfl, rfl, rfl, mm_X10_way, mt_X10_way⟩
theorem q_P131 : q_P 131 := fun _ => ⟨qm_X10_odds, ⟨"WinkBank", "odds", "(IIII)I"⟩, prog_1_method_20_code, (Option.some Jvm.ClassFile.FieldType.int), .code ⟨"WinkBank", "odds", "(IIII)I"⟩ prog_1_method_20_code 5 (Option.some Jvm.ClassFile.FieldType.int), rfl, rfl, rfl, mm_X10_odds, mt_X10_odds⟩
theorem q_P132 : q_P 132 := fun _ => ⟨qm_X10_mean, ⟨"WinkBank", "mean", "(IIII)I"⟩, prog_1_method_21_code, (Option.some Jvm.ClassFile.FieldType.int), .code ⟨"WinkBank", "mean", "(IIII)I"⟩ prog_1_method_21_code 5 (Option.some Jvm.ClassFile.FieldType.int), rfl, rfl, rfl, mm_X10_mean, mt_X10_mean⟩
theorem q_P133 : q_P 133 := fun _ => ⟨qm_X10_match, ⟨"WinkBank", "match", "()I"⟩, prog_1_method_22_code, (Option.some Jvm.ClassFile.FieldType.int), .code ⟨"WinkBank", "match", "()I"⟩ prog_1_method_22_code 1 (Option.some Jvm.ClassFile.FieldType.int), rfl, rfl, rfl, mm_X10_match, mt_X10_match⟩
theorem q_P134 : q_P 134 := fun _ => ⟨qm_X10_matched, ⟨"WinkBank", "matched", "(I)I"⟩, prog_1_method_23_code, (Option.some Jvm.ClassFile.FieldType.int), .code ⟨"WinkBank", "matched", "(I)I"⟩ prog_1_method_23_code 2 (Option.some Jvm.ClassFile.FieldType.int), rfl, rfl, rfl, mm_X10_matched, mt_X10_matched⟩
theorem q_P135 : q_P 135 := fun _ => ⟨qm_X10_fits, ⟨"WinkBank", "fits", "(II)I"⟩, prog_1_method_24_code, (Option.some Jvm.ClassFile.FieldType.int), .code ⟨"WinkBank", "fits", "(II)I"⟩ prog_1_method_24_code 3 (Option.some Jvm.ClassFile.FieldType.int), rfl, rfl, rfl, mm_X10_fits, mt_X10_fits⟩
theorem q_P136 : q_P 136 := fun _ => ⟨qm_X10_look, ⟨"WinkBank", "look", "(II)I"⟩, prog_1_method_25_code, (Option.some Jvm.ClassFile.FieldType.int), .code ⟨"WinkBank", "look", "(II)I"⟩ prog_1_method_25_code 3 (Option.some Jvm.ClassFile.FieldType.int), rfl, rfl, rfl, mm_X10_look, mt_X10_look⟩
theorem q_P137 : q_P 137 := fun _ => ⟨qm_X10_duel, ⟨"WinkBank", "duel", "(III)I"⟩, prog_1_method_26_code, (Option.some Jvm.ClassFile.FieldType.int), .code ⟨"WinkBank", "duel", "(III)I"⟩ prog_1_method_26_code 4 (Option.some Jvm.ClassFile.FieldType.int), rfl, rfl, rfl, mm_X10_duel, mt_X10_duel⟩
theorem q_P138 : q_P 138 := fun _ => ⟨qm_X10_panic, ⟨"WinkBank", "panic", "(II)I"⟩, prog_1_method_27_code, (Option.some Jvm.ClassFile.FieldType.int), .code ⟨"WinkBank", "panic", "(II)I"⟩ prog_1_method_27_code 7 (Option.some Jvm.ClassFile.FieldType.int), rfl, rfl, rfl, mm_X10_panic, mt_X10_panic⟩
theorem q_P139 : q_P 139 := fun _ => ⟨qm_X10_level, ⟨"WinkBank", "level", "(II)I"⟩, prog_1_method_28_code, (Option.some Jvm.ClassFile.FieldType.int), .code ⟨"WinkBank", "level", "(II)I"⟩ prog_1_method_28_code 5 (Option.some Jvm.ClassFile.FieldType.int), rfl, rfl, rfl, mm_X10_level, mt_X10_level⟩
theorem q_P140 : q_P 140 := fun _ => ⟨qm_X10_richest, ⟨"WinkBank", "richest", "(I)I"⟩, prog_1_method_29_code, (Option.some Jvm.ClassFile.FieldType.int), .code ⟨"WinkBank", "richest", "(I)I"⟩ prog_1_method_29_code 4 (Option.some Jvm.ClassFile.FieldType.int), rfl, rfl, rfl, mm_X10_richest, mt_X10_richest⟩
theorem q_P141 : q_P 141 := fun _ => ⟨qm_X10_ahead, ⟨"WinkBank", "ahead", "(II)I"⟩, prog_1_method_30_code, (Option.some Jvm.ClassFile.FieldType.int), .code ⟨"WinkBank", "ahead", "(II)I"⟩ prog_1_method_30_code 4 (Option.some Jvm.ClassFile.FieldType.int), rfl, rfl, rfl, mm_X10_ahead, mt_X10_ahead⟩
theorem q_P142 : q_P 142 := fun _ => ⟨qm_X10_season, ⟨"WinkBank", "season", "(IIII)I"⟩, prog_1_method_31_code, (Option.some Jvm.ClassFile.FieldType.int), .code ⟨"WinkBank", "season", "(IIII)I"⟩ prog_1_method_31_code 5 (Option.some Jvm.ClassFile.FieldType.int), rfl, rfl, rfl, mm_X10_season, mt_X10_season⟩
theorem q_P143 : q_P 143 := fun _ => ⟨qm_X10_span, ⟨"WinkBank", "span", "(IIIII)I"⟩, prog_1_method_32_code, (Option.some Jvm.ClassFile.FieldType.int), .code ⟨"WinkBank", "span", "(IIIII)I"⟩ prog_1_method_32_code 11 (Option.some Jvm.ClassFile.FieldType.int), rfl, rfl, rfl, mm_X10_span, mt_X10_span⟩
theorem q_P144 : q_P 144 := fun _ => ⟨qm_X10_undo, ⟨"WinkBank", "undo", "()I"⟩, prog_1_method_33_code, (Option.some Jvm.ClassFile.FieldType.int), .code ⟨"WinkBank", "undo", "()I"⟩ prog_1_method_33_code 1 (Option.some Jvm.ClassFile.FieldType.int), rfl, rfl, rfl, mm_X10_undo, mt_X10_undo⟩
theorem q_P145 : q_P 145 := fun _ => ⟨qm_X10_image, ⟨"WinkBank", "image", "()I"⟩, prog_1_method_34_code, (Option.some Jvm.ClassFile.FieldType.int), .code ⟨"WinkBank", "image", "()I"⟩ prog_1_method_34_code 1 (Option.some Jvm.ClassFile.FieldType.int), rfl, rfl, rfl, mm_X10_image, mt_X10_image⟩
theorem q_P146 : q_P 146 := fun _ => ⟨qm_X10_restore, ⟨"WinkBank", "restore", "()I"⟩, prog_1_method_35_code, (Option.some Jvm.ClassFile.FieldType.int), .code ⟨"WinkBank", "restore", "()I"⟩ prog_1_method_35_code 2 (Option.some Jvm.ClassFile.FieldType.int), rfl, rfl, rfl, mm_X10_restore, mt_X10_restore⟩
theorem q_P147 : q_P 147 := fun _ => ⟨qm_X10_status, ⟨"WinkBank", "status", "(I)I"⟩, prog_1_method_36_code, (Option.some Jvm.ClassFile.FieldType.int), .code ⟨"WinkBank", "status", "(I)I"⟩ prog_1_method_36_code 2 (Option.some Jvm.ClassFile.FieldType.int), rfl, rfl, rfl, mm_X10_status, mt_X10_status⟩
theorem q_P148 : q_P 148 := fun _ => ⟨qm_X10_count, ⟨"WinkBank", "count", "(I)I"⟩, prog_1_method_37_code, (Option.some Jvm.ClassFile.FieldType.int), .code ⟨"WinkBank", "count", "(I)I"⟩ prog_1_method_37_code 2 (Option.some Jvm.ClassFile.FieldType.int), rfl, rfl, rfl, mm_X10_count, mt_X10_count⟩
theorem q_P149 : q_P 149 := fun _ => ⟨qm_X10_playCount, ⟨"WinkBank", "playCount", "()I"⟩, prog_1_method_38_code, (Option.some Jvm.ClassFile.FieldType.int), .code ⟨"WinkBank", "playCount", "()I"⟩ prog_1_method_38_code 1 (Option.some Jvm.ClassFile.FieldType.int), rfl, rfl, rfl, mm_X10_playCount, mt_X10_playCount⟩
theorem q_P150 : q_P 150 := fun _ => ⟨qm_X10_keepNow, ⟨"WinkBank", "keepNow", "()LWinkBank$Kept;"⟩, prog_1_method_39_code, (Option.some (Jvm.ClassFile.FieldType.object "WinkBank$Kept")), .code ⟨"WinkBank", "keepNow", "()LWinkBank$Kept;"⟩ prog_1_method_39_code 2 (Option.some (Jvm.ClassFile.FieldType.object "WinkBank$Kept")), rfl, rfl, rfl, mm_X10_keepNow, mt_X10_keepNow⟩
theorem q_P151 : q_P 151 := fun _ => ⟨qm_X10_goBackTo, ⟨"WinkBank", "goBackTo", "(LWinkBank$Kept;)V"⟩, prog_1_method_40_code, (Option.none : Option Jvm.ClassFile.FieldType), .code ⟨"WinkBank", "goBackTo", "(LWinkBank$Kept;)V"⟩ prog_1_method_40_code 2 (Option.none : Option Jvm.ClassFile.FieldType), rfl, rfl, rfl, mm_X10_goBackTo, mt_X10_goBackTo⟩
theorem q_P152 : q_P 152 := fun _ => ⟨qm_X10_startTrial, ⟨"WinkBank", "startTrial", "()V"⟩, prog_1_method_41_code, (Option.none : Option Jvm.ClassFile.FieldType), .code ⟨"WinkBank", "startTrial", "()V"⟩ prog_1_method_41_code 1 (Option.none : Option Jvm.ClassFile.FieldType), rfl, rfl, rfl, mm_X10_startTrial, mt_X10_startTrial⟩
theorem q_P153 : q_P 153 := fun _ => ⟨qm_X10_openText, ⟨"WinkBank", "openText", "(II)V"⟩, prog_1_method_42_code, (Option.none : Option Jvm.ClassFile.FieldType), .code ⟨"WinkBank", "openText", "(II)V"⟩ prog_1_method_42_code 3 (Option.none : Option Jvm.ClassFile.FieldType), rfl, rfl, rfl, mm_X10_openText, mt_X10_openText⟩
theorem q_P154 : q_P 154 := fun _ => ⟨qm_X10_needThumb, ⟨"WinkBank", "needThumb", "(IIII)V"⟩, prog_1_method_43_code, (Option.none : Option Jvm.ClassFile.FieldType), .code ⟨"WinkBank", "needThumb", "(IIII)V"⟩ prog_1_method_43_code 5 (Option.none : Option Jvm.ClassFile.FieldType), rfl, rfl, rfl, mm_X10_needThumb, mt_X10_needThumb⟩
theorem q_P155 : q_P 155 := fun _ => ⟨qm_X10_needHouse, ⟨"WinkBank", "needHouse", "(I)V"⟩, prog_1_method_44_code, (Option.none : Option Jvm.ClassFile.FieldType), .code ⟨"WinkBank", "needHouse", "(I)V"⟩ prog_1_method_44_code 2 (Option.none : Option Jvm.ClassFile.FieldType), rfl, rfl, rfl, mm_X10_needHouse, mt_X10_needHouse⟩
theorem q_P156 : q_P 156 := fun _ => ⟨qm_X10_needWink, ⟨"WinkBank", "needWink", "(I)V"⟩, prog_1_method_45_code, (Option.none : Option Jvm.ClassFile.FieldType), .code ⟨"WinkBank", "needWink", "(I)V"⟩ prog_1_method_45_code 2 (Option.none : Option Jvm.ClassFile.FieldType), rfl, rfl, rfl, mm_X10_needWink, mt_X10_needWink⟩
theorem q_P157 : q_P 157 := fun _ => ⟨qm_X10_needCup, ⟨"WinkBank", "needCup", "(I)V"⟩, prog_1_method_46_code, (Option.none : Option Jvm.ClassFile.FieldType), .code ⟨"WinkBank", "needCup", "(I)V"⟩ prog_1_method_46_code 2 (Option.none : Option Jvm.ClassFile.FieldType), rfl, rfl, rfl, mm_X10_needCup, mt_X10_needCup⟩
theorem q_P158 : q_P 158 := fun _ => ⟨qm_X10_needThere, ⟨"WinkBank", "needThere", "(II)V"⟩, prog_1_method_47_code, (Option.none : Option Jvm.ClassFile.FieldType), .code ⟨"WinkBank", "needThere", "(II)V"⟩ prog_1_method_47_code 3 (Option.none : Option Jvm.ClassFile.FieldType), rfl, rfl, rfl, mm_X10_needThere, mt_X10_needThere⟩
theorem q_P159 : q_P 159 := fun _ => ⟨qm_X10_needPress, ⟨"WinkBank", "needPress", "(I)V"⟩, prog_1_method_48_code, (Option.none : Option Jvm.ClassFile.FieldType), .code ⟨"WinkBank", "needPress", "(I)V"⟩ prog_1_method_48_code 2 (Option.none : Option Jvm.ClassFile.FieldType), rfl, rfl, rfl, mm_X10_needPress, mt_X10_needPress⟩
theorem q_P160 : q_P 160 := fun _ => ⟨qm_X10_needWhat, ⟨"WinkBank", "needWhat", "(II)V"⟩, prog_1_method_49_code, (Option.none : Option Jvm.ClassFile.FieldType), .code ⟨"WinkBank", "needWhat", "(II)V"⟩ prog_1_method_49_code 3 (Option.none : Option Jvm.ClassFile.FieldType), rfl, rfl, rfl, mm_X10_needWhat, mt_X10_needWhat⟩
theorem q_P161 : q_P 161 := fun _ => ⟨qm_X10_needWithin, ⟨"WinkBank", "needWithin", "(III)V"⟩, prog_1_method_50_code, (Option.none : Option Jvm.ClassFile.FieldType), .code ⟨"WinkBank", "needWithin", "(III)V"⟩ prog_1_method_50_code 4 (Option.none : Option Jvm.ClassFile.FieldType), rfl, rfl, rfl, mm_X10_needWithin, mt_X10_needWithin⟩
theorem q_P162 : q_P 162 := fun _ => ⟨qm_X10_need, ⟨"WinkBank", "need", "(Z)V"⟩, prog_1_method_51_code, (Option.none : Option Jvm.ClassFile.FieldType), .code ⟨"WinkBank", "need", "(Z)V"⟩ prog_1_method_51_code 2 (Option.none : Option Jvm.ClassFile.FieldType), rfl, rfl, rfl, mm_X10_need, mt_X10_need⟩
theorem q_P163 : q_P 163 := fun _ => ⟨qm_X11_thrown, ⟨"WinkBankModel", "thrown", "()I"⟩, prog_13_method_1_code, (Option.some Jvm.ClassFile.FieldType.int), .code ⟨"WinkBankModel", "thrown", "()I"⟩ prog_13_method_1_code 1 (Option.some Jvm.ClassFile.FieldType.int), rfl, rfl, rfl, mm_X11_thrown, mt_X11_thrown⟩
theorem q_P164 : q_P 164 := fun _ => ⟨qm_X11_may, ⟨"WinkBankModel", "may", "(ZII)Z"⟩, prog_13_method_2_code, (Option.some Jvm.ClassFile.FieldType.boolean), .code ⟨"WinkBankModel", "may", "(ZII)Z"⟩ prog_13_method_2_code 4 (Option.some Jvm.ClassFile.FieldType.boolean), rfl, rfl, rfl, mm_X11_may, mt_X11_may⟩
theorem q_P165 : q_P 165 := fun _ => ⟨qm_X11_within, ⟨"WinkBankModel", "within", "(III)Z"⟩, prog_13_method_3_code, (Option.some Jvm.ClassFile.FieldType.boolean), .code ⟨"WinkBankModel", "within", "(III)Z"⟩ prog_13_method_3_code 3 (Option.some Jvm.ClassFile.FieldType.boolean), rfl, rfl, rfl, mm_X11_within, mt_X11_within⟩
theorem q_P166 : q_P 166 := fun _ => ⟨qm_X11_init, ⟨"WinkBankModel", "<init>", "()V"⟩, prog_13_method_4_code, (Option.none : Option Jvm.ClassFile.FieldType), .code ⟨"WinkBankModel", "<init>", "()V"⟩ prog_13_method_4_code 1 (Option.none : Option Jvm.ClassFile.FieldType), rfl, rfl, rfl, mm_X11_init, mt_X11_init⟩
theorem q_P167 : q_P 167 := fun _ => ⟨qm_X11_feed, ⟨"WinkBankModel", "feed", "(IIIII)I"⟩, prog_13_method_5_code, (Option.some Jvm.ClassFile.FieldType.int), .code ⟨"WinkBankModel", "feed", "(IIIII)I"⟩ prog_13_method_5_code 8 (Option.some Jvm.ClassFile.FieldType.int), rfl, rfl, rfl, mm_X11_feed, mt_X11_feed⟩
theorem q_P168 : q_P 168 := fun _ => ⟨qm_X11_fine, ⟨"WinkBankModel", "fine", "()Z"⟩, prog_13_method_6_code, (Option.some Jvm.ClassFile.FieldType.boolean), .code ⟨"WinkBankModel", "fine", "()Z"⟩ prog_13_method_6_code 1 (Option.some Jvm.ClassFile.FieldType.boolean), rfl, rfl, rfl, mm_X11_fine, mt_X11_fine⟩
theorem q_P169 : q_P 169 := fun _ => ⟨qm_X11_wrong, ⟨"WinkBankModel", "wrong", "(II)V"⟩, prog_13_method_7_code, (Option.none : Option Jvm.ClassFile.FieldType), .code ⟨"WinkBankModel", "wrong", "(II)V"⟩ prog_13_method_7_code 3 (Option.none : Option Jvm.ClassFile.FieldType), rfl, rfl, rfl, mm_X11_wrong, mt_X11_wrong⟩
theorem q_P170 : q_P 170 := fun _ => ⟨qm_X11_here, ⟨"WinkBankModel", "here", "()I"⟩, prog_13_method_8_code, (Option.some Jvm.ClassFile.FieldType.int), .code ⟨"WinkBankModel", "here", "()I"⟩ prog_13_method_8_code 1 (Option.some Jvm.ClassFile.FieldType.int), rfl, rfl, rfl, mm_X11_here, mt_X11_here⟩
theorem q_P171 : q_P 171 := fun _ => ⟨qm_X11_isSmall, ⟨"WinkBankModel", "isSmall", "(I)Z"⟩, prog_13_method_9_code, (Option.some Jvm.ClassFile.FieldType.boolean), .code ⟨"WinkBankModel", "isSmall", "(I)Z"⟩ prog_13_method_9_code 1 (Option.some Jvm.ClassFile.FieldType.boolean), rfl, rfl, rfl, mm_X11_isSmall, mt_X11_isSmall⟩
theorem q_P172 : q_P 172 := fun _ => ⟨qm_X11_isDigit, ⟨"WinkBankModel", "isDigit", "(I)Z"⟩, prog_13_method_10_code, (Option.some Jvm.ClassFile.FieldType.boolean), .code ⟨"WinkBankModel", "isDigit", "(I)Z"⟩ prog_13_method_10_code 1 (Option.some Jvm.ClassFile.FieldType.boolean), rfl, rfl, rfl, mm_X11_isDigit, mt_X11_isDigit⟩
theorem q_P173 : q_P 173 := fun _ => ⟨qm_X11_word, ⟨"WinkBankModel", "word", "()I"⟩, prog_13_method_11_code, (Option.some Jvm.ClassFile.FieldType.int), .code ⟨"WinkBankModel", "word", "()I"⟩ prog_13_method_11_code 4 (Option.some Jvm.ClassFile.FieldType.int), rfl, rfl, rfl, mm_X11_word, mt_X11_word⟩
theorem q_P174 : q_P 174 := fun _ => ⟨qm_X11_of, ⟨"WinkBankModel", "of", "(Ljava/lang/String;)I"⟩, prog_13_method_12_code, (Option.some Jvm.ClassFile.FieldType.int), .code ⟨"WinkBankModel", "of", "(Ljava/lang/String;)I"⟩ prog_13_method_12_code 3 (Option.some Jvm.ClassFile.FieldType.int), rfl, rfl, rfl, mm_X11_of, mt_X11_of⟩
theorem q_P175 : q_P 175 := fun _ => ⟨qm_X11_pass, ⟨"WinkBankModel", "pass", "()V"⟩, prog_13_method_13_code, (Option.none : Option Jvm.ClassFile.FieldType), .code ⟨"WinkBankModel", "pass", "()V"⟩ prog_13_method_13_code 1 (Option.none : Option Jvm.ClassFile.FieldType), rfl, rfl, rfl, mm_X11_pass, mt_X11_pass⟩
theorem q_P176 : q_P 176 := fun _ => ⟨qm_X11_readNumber, ⟨"WinkBankModel", "readNumber", "(II)I"⟩, prog_13_method_14_code, (Option.some Jvm.ClassFile.FieldType.int), .code ⟨"WinkBankModel", "readNumber", "(II)I"⟩ prog_13_method_14_code 6 (Option.some Jvm.ClassFile.FieldType.int), rfl, rfl, rfl, mm_X11_readNumber, mt_X11_readNumber⟩
theorem q_P177 : q_P 177 := fun _ => ⟨qm_X11_sign, ⟨"WinkBankModel", "sign", "(I)V"⟩, prog_13_method_15_code, (Option.none : Option Jvm.ClassFile.FieldType), .code ⟨"WinkBankModel", "sign", "(I)V"⟩ prog_13_method_15_code 2 (Option.none : Option Jvm.ClassFile.FieldType), rfl, rfl, rfl, mm_X11_sign, mt_X11_sign⟩
theorem q_P178 : q_P 178 := fun _ => ⟨qm_X11_isMore, ⟨"WinkBankModel", "isMore", "()Z"⟩, prog_13_method_16_code, (Option.some Jvm.ClassFile.FieldType.boolean), .code ⟨"WinkBankModel", "isMore", "()Z"⟩ prog_13_method_16_code 1 (Option.some Jvm.ClassFile.FieldType.boolean), rfl, rfl, rfl, mm_X11_isMore, mt_X11_isMore⟩
theorem q_P179 : q_P 179 := fun _ => ⟨qm_X11_begins, ⟨"WinkBankModel", "begins", "(I)V"⟩, prog_13_method_17_code, (Option.none : Option Jvm.ClassFile.FieldType), .code ⟨"WinkBankModel", "begins", "(I)V"⟩ prog_13_method_17_code 2 (Option.none : Option Jvm.ClassFile.FieldType), rfl, rfl, rfl, mm_X11_begins, mt_X11_begins⟩
theorem q_P180 : q_P 180 := fun _ => ⟨qm_X11_result, ⟨"WinkBankModel", "result", "(I)I"⟩, prog_13_method_18_code, (Option.some Jvm.ClassFile.FieldType.int), .code ⟨"WinkBankModel", "result", "(I)I"⟩ prog_13_method_18_code 2 (Option.some Jvm.ClassFile.FieldType.int), rfl, rfl, rfl, mm_X11_result, mt_X11_result⟩
theorem q_P181 : q_P 181 := fun _ => ⟨qm_X11_fault, ⟨"WinkBankModel", "fault", "()I"⟩, prog_13_method_19_code, (Option.some Jvm.ClassFile.FieldType.int), .code ⟨"WinkBankModel", "fault", "()I"⟩ prog_13_method_19_code 1 (Option.some Jvm.ClassFile.FieldType.int), rfl, rfl, rfl, mm_X11_fault, mt_X11_fault⟩
theorem q_P182 : q_P 182 := fun _ => ⟨qm_X11_copies, ⟨"WinkBankModel", "copies", "([I[II)V"⟩, prog_13_method_20_code, (Option.none : Option Jvm.ClassFile.FieldType), .code ⟨"WinkBankModel", "copies", "([I[II)V"⟩ prog_13_method_20_code 5 (Option.none : Option Jvm.ClassFile.FieldType), rfl, rfl, rfl, mm_X11_copies, mt_X11_copies⟩
theorem q_P183 : q_P 183 := fun _ => ⟨qm_X11_clears, ⟨"WinkBankModel", "clears", "()V"⟩, prog_13_method_21_code, (Option.none : Option Jvm.ClassFile.FieldType), .code ⟨"WinkBankModel", "clears", "()V"⟩ prog_13_method_21_code 1 (Option.none : Option Jvm.ClassFile.FieldType), rfl, rfl, rfl, mm_X11_clears, mt_X11_clears⟩
theorem q_P184 : q_P 184 := fun _ => ⟨qm_X11_sets, ⟨"WinkBankModel", "sets", "()V"⟩, prog_13_method_22_code, (Option.none : Option Jvm.ClassFile.FieldType), .code ⟨"WinkBankModel", "sets", "()V"⟩ prog_13_method_22_code 3 (Option.none : Option Jvm.ClassFile.FieldType), rfl, rfl, rfl, mm_X11_sets, mt_X11_sets⟩
theorem q_P185 : q_P 185 := fun _ => ⟨qm_X11_isRow, ⟨"WinkBankModel", "isRow", "(I)Z"⟩, prog_13_method_23_code, (Option.some Jvm.ClassFile.FieldType.boolean), .code ⟨"WinkBankModel", "isRow", "(I)Z"⟩ prog_13_method_23_code 1 (Option.some Jvm.ClassFile.FieldType.boolean), rfl, rfl, rfl, mm_X11_isRow, mt_X11_isRow⟩
theorem q_P186 : q_P 186 := fun _ => ⟨qm_X11_readCup, ⟨"WinkBankModel", "readCup", "()V"⟩, prog_13_method_24_code, (Option.none : Option Jvm.ClassFile.FieldType), .code ⟨"WinkBankModel", "readCup", "()V"⟩ prog_13_method_24_code 4 (Option.none : Option Jvm.ClassFile.FieldType), rfl, rfl, rfl, mm_X11_readCup, mt_X11_readCup⟩
theorem q_P187 : q_P 187 := fun _ => ⟨qm_X11_readRow, ⟨"WinkBankModel", "readRow", "(I)V"⟩, prog_13_method_25_code, (Option.none : Option Jvm.ClassFile.FieldType), .code ⟨"WinkBankModel", "readRow", "(I)V"⟩ prog_13_method_25_code 2 (Option.none : Option Jvm.ClassFile.FieldType), rfl, rfl, rfl, mm_X11_readRow, mt_X11_readRow⟩
theorem q_P188 : q_P 188 := fun _ => ⟨qm_X11_liesOnFelt, ⟨"WinkBankModel", "liesOnFelt", "()Z"⟩, prog_13_method_26_code, (Option.some Jvm.ClassFile.FieldType.boolean), .code ⟨"WinkBankModel", "liesOnFelt", "()Z"⟩ prog_13_method_26_code 2 (Option.some Jvm.ClassFile.FieldType.boolean), rfl, rfl, rfl, mm_X11_liesOnFelt, mt_X11_liesOnFelt⟩
theorem q_P189 : q_P 189 := fun _ => ⟨qm_X11_room, ⟨"WinkBankModel", "room", "(I)I"⟩, prog_13_method_27_code, (Option.some Jvm.ClassFile.FieldType.int), .code ⟨"WinkBankModel", "room", "(I)I"⟩ prog_13_method_27_code 4 (Option.some Jvm.ClassFile.FieldType.int), rfl, rfl, rfl, mm_X11_room, mt_X11_room⟩
theorem q_P190 : q_P 190 := fun _ => ⟨qm_X11_emit, ⟨"WinkBankModel", "emit", "(II)V"⟩, prog_13_method_28_code, (Option.none : Option Jvm.ClassFile.FieldType), .code ⟨"WinkBankModel", "emit", "(II)V"⟩ prog_13_method_28_code 3 (Option.none : Option Jvm.ClassFile.FieldType), rfl, rfl, rfl, mm_X11_emit, mt_X11_emit⟩
theorem q_P191 : q_P 191 := fun _ => ⟨qm_X11_opensOne, ⟨"WinkBankModel", "opensOne", "(I)V"⟩, prog_13_method_29_code, (Option.none : Option Jvm.ClassFile.FieldType), .code ⟨"WinkBankModel", "opensOne", "(I)V"⟩ prog_13_method_29_code 2 (Option.none : Option Jvm.ClassFile.FieldType), rfl, rfl, rfl, mm_X11_opensOne, mt_X11_opensOne⟩
theorem q_P192 : q_P 192 := fun _ => ⟨qm_X11_readSum, ⟨"WinkBankModel", "readSum", "()V"⟩, prog_13_method_30_code, (Option.none : Option Jvm.ClassFile.FieldType), .code ⟨"WinkBankModel", "readSum", "()V"⟩ prog_13_method_30_code 2 (Option.none : Option Jvm.ClassFile.FieldType), rfl, rfl, rfl, mm_X11_readSum, mt_X11_readSum⟩
theorem q_P193 : q_P 193 := fun _ => ⟨qm_X11_readProduct, ⟨"WinkBankModel", "readProduct", "()V"⟩, prog_13_method_31_code, (Option.none : Option Jvm.ClassFile.FieldType), .code ⟨"WinkBankModel", "readProduct", "()V"⟩ prog_13_method_31_code 2 (Option.none : Option Jvm.ClassFile.FieldType), rfl, rfl, rfl, mm_X11_readProduct, mt_X11_readProduct⟩
theorem q_P194 : q_P 194 := fun _ => ⟨qm_X11_readTwo, ⟨"WinkBankModel", "readTwo", "(II)V"⟩, prog_13_method_32_code, (Option.none : Option Jvm.ClassFile.FieldType), .code ⟨"WinkBankModel", "readTwo", "(II)V"⟩ prog_13_method_32_code 3 (Option.none : Option Jvm.ClassFile.FieldType), rfl, rfl, rfl, mm_X11_readTwo, mt_X11_readTwo⟩
theorem q_P195 : q_P 195 := fun _ => ⟨qm_X11_factHere, ⟨"WinkBankModel", "factHere", "()I"⟩, prog_13_method_33_code, (Option.some Jvm.ClassFile.FieldType.int), .code ⟨"WinkBankModel", "factHere", "()I"⟩ prog_13_method_33_code 2 (Option.some Jvm.ClassFile.FieldType.int), rfl, rfl, rfl, mm_X11_factHere, mt_X11_factHere⟩
theorem q_P196 : q_P 196 := fun _ => ⟨qm_X11_readUnit, ⟨"WinkBankModel", "readUnit", "()V"⟩, prog_13_method_34_code, (Option.none : Option Jvm.ClassFile.FieldType), .code ⟨"WinkBankModel", "readUnit", "()V"⟩ prog_13_method_34_code 2 (Option.none : Option Jvm.ClassFile.FieldType), rfl, rfl, rfl, mm_X11_readUnit, mt_X11_readUnit⟩
theorem q_P197 : q_P 197 := fun _ => ⟨qm_X11_law, ⟨"WinkBankModel", "law", "(I)I"⟩, prog_13_method_35_code, (Option.some Jvm.ClassFile.FieldType.int), .code ⟨"WinkBankModel", "law", "(I)I"⟩ prog_13_method_35_code 3 (Option.some Jvm.ClassFile.FieldType.int), rfl, rfl, rfl, mm_X11_law, mt_X11_law⟩
theorem q_P198 : q_P 198 := fun _ => ⟨qm_X11_valueNow, ⟨"WinkBankModel", "valueNow", "()I"⟩, prog_13_method_36_code, (Option.some Jvm.ClassFile.FieldType.int), .code ⟨"WinkBankModel", "valueNow", "()I"⟩ prog_13_method_36_code 4 (Option.some Jvm.ClassFile.FieldType.int), rfl, rfl, rfl, mm_X11_valueNow, mt_X11_valueNow⟩
theorem q_P199 : q_P 199 := fun _ => ⟨qm_X11_both, ⟨"WinkBankModel", "both", "(III)I"⟩, prog_13_method_37_code, (Option.some Jvm.ClassFile.FieldType.int), .code ⟨"WinkBankModel", "both", "(III)I"⟩ prog_13_method_37_code 3 (Option.some Jvm.ClassFile.FieldType.int), rfl, rfl, rfl, mm_X11_both, mt_X11_both⟩
theorem q_P200 : q_P 200 := fun _ => ⟨qm_X11_fliesNow, ⟨"WinkBankModel", "fliesNow", "()I"⟩, prog_13_method_38_code, (Option.some Jvm.ClassFile.FieldType.int), .code ⟨"WinkBankModel", "fliesNow", "()I"⟩ prog_13_method_38_code 2 (Option.some Jvm.ClassFile.FieldType.int), rfl, rfl, rfl, mm_X11_fliesNow, mt_X11_fliesNow⟩
theorem q_P201 : q_P 201 := fun _ => ⟨qm_X11_tellsStep, ⟨"WinkBankModel", "tellsStep", "(III)V"⟩, prog_13_method_39_code, (Option.none : Option Jvm.ClassFile.FieldType), .code ⟨"WinkBankModel", "tellsStep", "(III)V"⟩ prog_13_method_39_code 4 (Option.none : Option Jvm.ClassFile.FieldType), rfl, rfl, rfl, mm_X11_tellsStep, mt_X11_tellsStep⟩
theorem q_P202 : q_P 202 := fun _ => ⟨qm_X11_readStep, ⟨"WinkBankModel", "readStep", "()V"⟩, prog_13_method_40_code, (Option.none : Option Jvm.ClassFile.FieldType), .code ⟨"WinkBankModel", "readStep", "()V"⟩ prog_13_method_40_code 4 (Option.none : Option Jvm.ClassFile.FieldType), rfl, rfl, rfl, mm_X11_readStep, mt_X11_readStep⟩
theorem q_P203 : q_P 203 := fun _ => ⟨qm_X11_play, ⟨"WinkBankModel", "play", "(I)I"⟩, prog_13_method_41_code, (Option.some Jvm.ClassFile.FieldType.int), .code ⟨"WinkBankModel", "play", "(I)I"⟩ prog_13_method_41_code 4 (Option.some Jvm.ClassFile.FieldType.int), rfl, rfl, rfl, mm_X11_play, mt_X11_play⟩
theorem q_P204 : q_P 204 := fun _ => ⟨qm_X11_goesSteps, ⟨"WinkBankModel", "goesSteps", "(II)V"⟩, prog_13_method_42_code, (Option.none : Option Jvm.ClassFile.FieldType), .code ⟨"WinkBankModel", "goesSteps", "(II)V"⟩ prog_13_method_42_code 6 (Option.none : Option Jvm.ClassFile.FieldType), rfl, rfl, rfl, mm_X11_goesSteps, mt_X11_goesSteps⟩
theorem q_P205 : q_P 205 := fun _ => ⟨qm_X11_take, ⟨"WinkBankModel", "take", "()V"⟩, prog_13_method_43_code, (Option.none : Option Jvm.ClassFile.FieldType), .code ⟨"WinkBankModel", "take", "()V"⟩ prog_13_method_43_code 1 (Option.none : Option Jvm.ClassFile.FieldType), rfl, rfl, rfl, mm_X11_take, mt_X11_take⟩
theorem q_P206 : q_P 206 := fun _ => ⟨qm_X11_manyAt, ⟨"WinkBankModel", "manyAt", "(I)I"⟩, prog_13_method_44_code, (Option.some Jvm.ClassFile.FieldType.int), .code ⟨"WinkBankModel", "manyAt", "(I)I"⟩ prog_13_method_44_code 4 (Option.some Jvm.ClassFile.FieldType.int), rfl, rfl, rfl, mm_X11_manyAt, mt_X11_manyAt⟩
theorem q_P207 : q_P 207 := fun _ => ⟨qm_X11_over, ⟨"WinkBankModel", "over", "(I)I"⟩, prog_13_method_45_code, (Option.some Jvm.ClassFile.FieldType.int), .code ⟨"WinkBankModel", "over", "(I)I"⟩ prog_13_method_45_code 2 (Option.some Jvm.ClassFile.FieldType.int), rfl, rfl, rfl, mm_X11_over, mt_X11_over⟩
theorem q_P208 : q_P 208 := fun _ => ⟨qm_X11_canFlick, ⟨"WinkBankModel", "canFlick", "(I)Z"⟩, prog_13_method_46_code, (Option.some Jvm.ClassFile.FieldType.boolean), .code ⟨"WinkBankModel", "canFlick", "(I)Z"⟩ prog_13_method_46_code 2 (Option.some Jvm.ClassFile.FieldType.boolean), rfl, rfl, rfl, mm_X11_canFlick, mt_X11_canFlick⟩
theorem q_P209 : q_P 209 := fun _ => ⟨qm_X11_whoAt, ⟨"WinkBankModel", "whoAt", "(II)I"⟩, prog_13_method_47_code, (Option.some Jvm.ClassFile.FieldType.int), .code ⟨"WinkBankModel", "whoAt", "(II)I"⟩ prog_13_method_47_code 4 (Option.some Jvm.ClassFile.FieldType.int), rfl, rfl, rfl, mm_X11_whoAt, mt_X11_whoAt⟩
theorem q_P210 : q_P 210 := fun _ => ⟨qm_X11_cupAt, ⟨"WinkBankModel", "cupAt", "(I)I"⟩, prog_13_method_48_code, (Option.some Jvm.ClassFile.FieldType.int), .code ⟨"WinkBankModel", "cupAt", "(I)I"⟩ prog_13_method_48_code 3 (Option.some Jvm.ClassFile.FieldType.int), rfl, rfl, rfl, mm_X11_cupAt, mt_X11_cupAt⟩
theorem q_P211 : q_P 211 := fun _ => ⟨qm_X11_fliesOf, ⟨"WinkBankModel", "fliesOf", "(IIIIIIIII)I"⟩, prog_13_method_49_code, (Option.some Jvm.ClassFile.FieldType.int), .code ⟨"WinkBankModel", "fliesOf", "(IIIIIIIII)I"⟩ prog_13_method_49_code 10 (Option.some Jvm.ClassFile.FieldType.int), rfl, rfl, rfl, mm_X11_fliesOf, mt_X11_fliesOf⟩
theorem q_P212 : q_P 212 := fun _ => ⟨qm_X11_fliesBy, ⟨"WinkBankModel", "fliesBy", "(IIII)I"⟩, prog_13_method_50_code, (Option.some Jvm.ClassFile.FieldType.int), .code ⟨"WinkBankModel", "fliesBy", "(IIII)I"⟩ prog_13_method_50_code 5 (Option.some Jvm.ClassFile.FieldType.int), rfl, rfl, rfl, mm_X11_fliesBy, mt_X11_fliesBy⟩
theorem q_P213 : q_P 213 := fun _ => ⟨qm_X11_fliesAsItLies, ⟨"WinkBankModel", "fliesAsItLies", "(II)I"⟩, prog_13_method_51_code, (Option.some Jvm.ClassFile.FieldType.int), .code ⟨"WinkBankModel", "fliesAsItLies", "(II)I"⟩ prog_13_method_51_code 3 (Option.some Jvm.ClassFile.FieldType.int), rfl, rfl, rfl, mm_X11_fliesAsItLies, mt_X11_fliesAsItLies⟩
theorem q_P214 : q_P 214 := fun _ => ⟨qm_X11_comesTo, ⟨"WinkBankModel", "comesTo", "(III)I"⟩, prog_13_method_52_code, (Option.some Jvm.ClassFile.FieldType.int), .code ⟨"WinkBankModel", "comesTo", "(III)I"⟩ prog_13_method_52_code 5 (Option.some Jvm.ClassFile.FieldType.int), rfl, rfl, rfl, mm_X11_comesTo, mt_X11_comesTo⟩
theorem q_P215 : q_P 215 := fun _ => ⟨qm_X11_lands, ⟨"WinkBankModel", "lands", "(II)I"⟩, prog_13_method_53_code, (Option.some Jvm.ClassFile.FieldType.int), .code ⟨"WinkBankModel", "lands", "(II)I"⟩ prog_13_method_53_code 4 (Option.some Jvm.ClassFile.FieldType.int), rfl, rfl, rfl, mm_X11_lands, mt_X11_lands⟩
theorem q_P216 : q_P 216 := fun _ => ⟨qm_X11_earns, ⟨"WinkBankModel", "earns", "(II)V"⟩, prog_13_method_54_code, (Option.none : Option Jvm.ClassFile.FieldType), .code ⟨"WinkBankModel", "earns", "(II)V"⟩ prog_13_method_54_code 3 (Option.none : Option Jvm.ClassFile.FieldType), rfl, rfl, rfl, mm_X11_earns, mt_X11_earns⟩
theorem q_P217 : q_P 217 := fun _ => ⟨qm_X11_flights, ⟨"WinkBankModel", "flights", "(III)I"⟩, prog_13_method_55_code, (Option.some Jvm.ClassFile.FieldType.int), .code ⟨"WinkBankModel", "flights", "(III)I"⟩ prog_13_method_55_code 5 (Option.some Jvm.ClassFile.FieldType.int), rfl, rfl, rfl, mm_X11_flights, mt_X11_flights⟩
theorem q_P218 : q_P 218 := fun _ => ⟨qm_X11_flicks, ⟨"WinkBankModel", "flicks", "(III)Z"⟩, prog_13_method_56_code, (Option.some Jvm.ClassFile.FieldType.boolean), .code ⟨"WinkBankModel", "flicks", "(III)Z"⟩ prog_13_method_56_code 6 (Option.some Jvm.ClassFile.FieldType.boolean), rfl, rfl, rfl, mm_X11_flicks, mt_X11_flicks⟩
theorem q_P219 : q_P 219 := fun _ => ⟨qm_X11_frees, ⟨"WinkBankModel", "frees", "()Z"⟩, prog_13_method_57_code, (Option.some Jvm.ClassFile.FieldType.boolean), .code ⟨"WinkBankModel", "frees", "()Z"⟩ prog_13_method_57_code 3 (Option.some Jvm.ClassFile.FieldType.boolean), rfl, rfl, rfl, mm_X11_frees, mt_X11_frees⟩
theorem q_P220 : q_P 220 := fun _ => ⟨qm_X11_shakes, ⟨"WinkBankModel", "shakes", "()Z"⟩, prog_13_method_58_code, (Option.some Jvm.ClassFile.FieldType.boolean), .code ⟨"WinkBankModel", "shakes", "()Z"⟩ prog_13_method_58_code 2 (Option.some Jvm.ClassFile.FieldType.boolean), rfl, rfl, rfl, mm_X11_shakes, mt_X11_shakes⟩
theorem q_P221 : q_P 221 := fun _ => ⟨qm_X11_passes, ⟨"WinkBankModel", "passes", "()V"⟩, prog_13_method_59_code, (Option.none : Option Jvm.ClassFile.FieldType), .code ⟨"WinkBankModel", "passes", "()V"⟩ prog_13_method_59_code 2 (Option.none : Option Jvm.ClassFile.FieldType), rfl, rfl, rfl, mm_X11_passes, mt_X11_passes⟩
theorem q_P222 : q_P 222 := fun _ => ⟨qm_X11_goes, ⟨"WinkBankModel", "goes", "(III)Z"⟩, prog_13_method_60_code, (Option.some Jvm.ClassFile.FieldType.boolean), .code ⟨"WinkBankModel", "goes", "(III)Z"⟩ prog_13_method_60_code 4 (Option.some Jvm.ClassFile.FieldType.boolean), rfl, rfl, rfl, mm_X11_goes, mt_X11_goes⟩
theorem q_P223 : q_P 223 := fun _ => ⟨qm_X11_book, ⟨"WinkBankModel", "book", "(I)I"⟩, prog_13_method_61_code, (Option.some Jvm.ClassFile.FieldType.int), .code ⟨"WinkBankModel", "book", "(I)I"⟩ prog_13_method_61_code 6 (Option.some Jvm.ClassFile.FieldType.int), rfl, rfl, rfl, mm_X11_book, mt_X11_book⟩
theorem q_P224 : q_P 224 := fun _ => ⟨qm_X11_isTold, ⟨"WinkBankModel", "isTold", "(I)Z"⟩, prog_13_method_62_code, (Option.some Jvm.ClassFile.FieldType.boolean), .code ⟨"WinkBankModel", "isTold", "(I)Z"⟩ prog_13_method_62_code 2 (Option.some Jvm.ClassFile.FieldType.boolean), rfl, rfl, rfl, mm_X11_isTold, mt_X11_isTold⟩
theorem q_P225 : q_P 225 := fun _ => ⟨qm_X11_undo, ⟨"WinkBankModel", "undo", "()I"⟩, prog_13_method_63_code, (Option.some Jvm.ClassFile.FieldType.int), .code ⟨"WinkBankModel", "undo", "()I"⟩ prog_13_method_63_code 2 (Option.some Jvm.ClassFile.FieldType.int), rfl, rfl, rfl, mm_X11_undo, mt_X11_undo⟩
theorem q_P226 : q_P 226 := fun _ => ⟨qm_X11_frozen, ⟨"WinkBankModel", "frozen", "()I"⟩, prog_13_method_64_code, (Option.some Jvm.ClassFile.FieldType.int), .code ⟨"WinkBankModel", "frozen", "()I"⟩ prog_13_method_64_code 3 (Option.some Jvm.ClassFile.FieldType.int), rfl, rfl, rfl, mm_X11_frozen, mt_X11_frozen⟩
theorem q_P227 : q_P 227 := fun _ => ⟨qm_X11_those, ⟨"WinkBankModel", "those", "(I)I"⟩, prog_13_method_65_code, (Option.some Jvm.ClassFile.FieldType.int), .code ⟨"WinkBankModel", "those", "(I)I"⟩ prog_13_method_65_code 4 (Option.some Jvm.ClassFile.FieldType.int), rfl, rfl, rfl, mm_X11_those, mt_X11_those⟩
theorem q_P228 : q_P 228 := fun _ => ⟨qm_X11_told, ⟨"WinkBankModel", "told", "(I)I"⟩, prog_13_method_66_code, (Option.some Jvm.ClassFile.FieldType.int), .code ⟨"WinkBankModel", "told", "(I)I"⟩ prog_13_method_66_code 2 (Option.some Jvm.ClassFile.FieldType.int), rfl, rfl, rfl, mm_X11_told, mt_X11_told⟩
theorem q_P229 : q_P 229 := fun _ => ⟨qm_X11_isHouse, ⟨"WinkBankModel", "isHouse", "(II)Z"⟩, prog_13_method_67_code, (Option.some Jvm.ClassFile.FieldType.boolean), .code ⟨"WinkBankModel", "isHouse", "(II)Z"⟩ prog_13_method_67_code 3 (Option.some Jvm.ClassFile.FieldType.boolean), rfl, rfl, rfl, mm_X11_isHouse, mt_X11_isHouse⟩
theorem q_P230 : q_P 230 := fun _ => ⟨qm_X11_isWink, ⟨"WinkBankModel", "isWink", "(II)Z"⟩, prog_13_method_68_code, (Option.some Jvm.ClassFile.FieldType.boolean), .code ⟨"WinkBankModel", "isWink", "(II)Z"⟩ prog_13_method_68_code 3 (Option.some Jvm.ClassFile.FieldType.boolean), rfl, rfl, rfl, mm_X11_isWink, mt_X11_isWink⟩
theorem q_P231 : q_P 231 := fun _ => ⟨qm_X11_house, ⟨"WinkBankModel", "house", "(II)I"⟩, prog_13_method_69_code, (Option.some Jvm.ClassFile.FieldType.int), .code ⟨"WinkBankModel", "house", "(II)I"⟩ prog_13_method_69_code 5 (Option.some Jvm.ClassFile.FieldType.int), rfl, rfl, rfl, mm_X11_house, mt_X11_house⟩
theorem q_P232 : q_P 232 := fun _ => ⟨qm_X11_wink, ⟨"WinkBankModel", "wink", "(II)I"⟩, prog_13_method_70_code, (Option.some Jvm.ClassFile.FieldType.int), .code ⟨"WinkBankModel", "wink", "(II)I"⟩ prog_13_method_70_code 3 (Option.some Jvm.ClassFile.FieldType.int), rfl, rfl, rfl, mm_X11_wink, mt_X11_wink⟩
theorem q_P233 : q_P 233 := fun _ => ⟨qm_X11_cup, ⟨"WinkBankModel", "cup", "(II)I"⟩, prog_13_method_71_code, (Option.some Jvm.ClassFile.FieldType.int), .code ⟨"WinkBankModel", "cup", "(II)I"⟩ prog_13_method_71_code 5 (Option.some Jvm.ClassFile.FieldType.int), rfl, rfl, rfl, mm_X11_cup, mt_X11_cup⟩
theorem q_P234 : q_P 234 := fun _ => ⟨qm_X11_cell, ⟨"WinkBankModel", "cell", "(II)I"⟩, prog_13_method_72_code, (Option.some Jvm.ClassFile.FieldType.int), .code ⟨"WinkBankModel", "cell", "(II)I"⟩ prog_13_method_72_code 3 (Option.some Jvm.ClassFile.FieldType.int), rfl, rfl, rfl, mm_X11_cell, mt_X11_cell⟩
theorem q_P235 : q_P 235 := fun _ => ⟨qm_X11_isPress, ⟨"WinkBankModel", "isPress", "(I)Z"⟩, prog_13_method_73_code, (Option.some Jvm.ClassFile.FieldType.boolean), .code ⟨"WinkBankModel", "isPress", "(I)Z"⟩ prog_13_method_73_code 1 (Option.some Jvm.ClassFile.FieldType.boolean), rfl, rfl, rfl, mm_X11_isPress, mt_X11_isPress⟩
theorem q_P236 : q_P 236 := fun _ => ⟨qm_X11_flies, ⟨"WinkBankModel", "flies", "(II)I"⟩, prog_13_method_74_code, (Option.some Jvm.ClassFile.FieldType.int), .code ⟨"WinkBankModel", "flies", "(II)I"⟩ prog_13_method_74_code 3 (Option.some Jvm.ClassFile.FieldType.int), rfl, rfl, rfl, mm_X11_flies, mt_X11_flies⟩
theorem q_P237 : q_P 237 := fun _ => ⟨qm_X11_would, ⟨"WinkBankModel", "would", "(IIIIIIIII)I"⟩, prog_13_method_75_code, (Option.some Jvm.ClassFile.FieldType.int), .code ⟨"WinkBankModel", "would", "(IIIIIIIII)I"⟩ prog_13_method_75_code 10 (Option.some Jvm.ClassFile.FieldType.int), rfl, rfl, rfl, mm_X11_would, mt_X11_would⟩
theorem q_P238 : q_P 238 := fun _ => ⟨qm_X11_downOf, ⟨"WinkBankModel", "downOf", "(III)I"⟩, prog_13_method_76_code, (Option.some Jvm.ClassFile.FieldType.int), .code ⟨"WinkBankModel", "downOf", "(III)I"⟩ prog_13_method_76_code 4 (Option.some Jvm.ClassFile.FieldType.int), rfl, rfl, rfl, mm_X11_downOf, mt_X11_downOf⟩
theorem q_P239 : q_P 239 := fun _ => ⟨qm_X11_cupOf, ⟨"WinkBankModel", "cupOf", "(III)I"⟩, prog_13_method_77_code, (Option.some Jvm.ClassFile.FieldType.int), .code ⟨"WinkBankModel", "cupOf", "(III)I"⟩ prog_13_method_77_code 5 (Option.some Jvm.ClassFile.FieldType.int), rfl, rfl, rfl, mm_X11_cupOf, mt_X11_cupOf⟩
theorem q_P240 : q_P 240 := fun _ => ⟨qm_X11_down, ⟨"WinkBankModel", "down", "(III)I"⟩, prog_13_method_78_code, (Option.some Jvm.ClassFile.FieldType.int), .code ⟨"WinkBankModel", "down", "(III)I"⟩ prog_13_method_78_code 4 (Option.some Jvm.ClassFile.FieldType.int), rfl, rfl, rfl, mm_X11_down, mt_X11_down⟩
theorem q_P241 : q_P 241 := fun _ => ⟨qm_X11_presses, ⟨"WinkBankModel", "presses", "(II)I"⟩, prog_13_method_79_code, (Option.some Jvm.ClassFile.FieldType.int), .code ⟨"WinkBankModel", "presses", "(II)I"⟩ prog_13_method_79_code 5 (Option.some Jvm.ClassFile.FieldType.int), rfl, rfl, rfl, mm_X11_presses, mt_X11_presses⟩
theorem q_P242 : q_P 242 := fun _ => ⟨qm_X11_gain, ⟨"WinkBankModel", "gain", "(II)I"⟩, prog_13_method_80_code, (Option.some Jvm.ClassFile.FieldType.int), .code ⟨"WinkBankModel", "gain", "(II)I"⟩ prog_13_method_80_code 10 (Option.some Jvm.ClassFile.FieldType.int), rfl, rfl, rfl, mm_X11_gain, mt_X11_gain⟩
theorem q_P243 : q_P 243 := fun _ => ⟨qm_X11_findWay, ⟨"WinkBankModel", "findWay", "(I)V"⟩, prog_13_method_81_code, (Option.none : Option Jvm.ClassFile.FieldType), .code ⟨"WinkBankModel", "findWay", "(I)V"⟩ prog_13_method_81_code 11 (Option.none : Option Jvm.ClassFile.FieldType), rfl, rfl, rfl, mm_X11_findWay, mt_X11_findWay⟩
theorem q_P244 : q_P 244 := fun _ => ⟨qm_X11_way, ⟨"WinkBankModel", "way", "(II)I"⟩, prog_13_method_82_code, (Option.some Jvm.ClassFile.FieldType.int), .code ⟨"WinkBankModel", "way", "(II)I"⟩ prog_13_method_82_code 3 (Option.some Jvm.ClassFile.FieldType.int), rfl, rfl, rfl, mm_X11_way, mt_X11_way⟩
theorem q_P245 : q_P 245 := fun _ => ⟨qm_X11_valueBy, ⟨"WinkBankModel", "valueBy", "(IIZ)I"⟩, prog_13_method_83_code, (Option.some Jvm.ClassFile.FieldType.int), .code ⟨"WinkBankModel", "valueBy", "(IIZ)I"⟩ prog_13_method_83_code 6 (Option.some Jvm.ClassFile.FieldType.int), rfl, rfl, rfl, mm_X11_valueBy, mt_X11_valueBy⟩
theorem q_P246 : q_P 246 := fun _ => ⟨qm_X11_thumbOf, ⟨"WinkBankModel", "thumbOf", "(IIIZ)I"⟩, prog_13_method_84_code, (Option.some Jvm.ClassFile.FieldType.int), .code ⟨"WinkBankModel", "thumbOf", "(IIIZ)I"⟩ prog_13_method_84_code 5 (Option.some Jvm.ClassFile.FieldType.int), rfl, rfl, rfl, mm_X11_thumbOf, mt_X11_thumbOf⟩
theorem q_P247 : q_P 247 := fun _ => ⟨qm_X11_least, ⟨"WinkBankModel", "least", "(III)I"⟩, prog_13_method_85_code, (Option.some Jvm.ClassFile.FieldType.int), .code ⟨"WinkBankModel", "least", "(III)I"⟩ prog_13_method_85_code 6 (Option.some Jvm.ClassFile.FieldType.int), rfl, rfl, rfl, mm_X11_least, mt_X11_least⟩
theorem q_P248 : q_P 248 := fun _ => ⟨qm_X11_thumb, ⟨"WinkBankModel", "thumb", "(IIIIZ)I"⟩, prog_13_method_86_code, (Option.some Jvm.ClassFile.FieldType.int), .code ⟨"WinkBankModel", "thumb", "(IIIIZ)I"⟩ prog_13_method_86_code 6 (Option.some Jvm.ClassFile.FieldType.int), rfl, rfl, rfl, mm_X11_thumb, mt_X11_thumb⟩
theorem q_P249 : q_P 249 := fun _ => ⟨qm_X11_odds, ⟨"WinkBankModel", "odds", "(IIII)I"⟩, prog_13_method_87_code, (Option.some Jvm.ClassFile.FieldType.int), .code ⟨"WinkBankModel", "odds", "(IIII)I"⟩ prog_13_method_87_code 5 (Option.some Jvm.ClassFile.FieldType.int), rfl, rfl, rfl, mm_X11_odds, mt_X11_odds⟩
theorem q_P250 : q_P 250 := fun _ => ⟨qm_X11_mean, ⟨"WinkBankModel", "mean", "(IIII)I"⟩, prog_13_method_88_code, (Option.some Jvm.ClassFile.FieldType.int), .code ⟨"WinkBankModel", "mean", "(IIII)I"⟩ prog_13_method_88_code 5 (Option.some Jvm.ClassFile.FieldType.int), rfl, rfl, rfl, mm_X11_mean, mt_X11_mean⟩
theorem q_P251 : q_P 251 := fun _ => ⟨qm_X11_reaches, ⟨"WinkBankModel", "reaches", "(II)Z"⟩, prog_13_method_89_code, (Option.some Jvm.ClassFile.FieldType.boolean), .code ⟨"WinkBankModel", "reaches", "(II)Z"⟩ prog_13_method_89_code 4 (Option.some Jvm.ClassFile.FieldType.boolean), rfl, rfl, rfl, mm_X11_reaches, mt_X11_reaches⟩
theorem q_P252 : q_P 252 := fun _ => ⟨qm_X11_findMatch, ⟨"WinkBankModel", "findMatch", "()V"⟩, prog_13_method_90_code, (Option.none : Option Jvm.ClassFile.FieldType), .code ⟨"WinkBankModel", "findMatch", "()V"⟩ prog_13_method_90_code 11 (Option.none : Option Jvm.ClassFile.FieldType), rfl, rfl, rfl, mm_X11_findMatch, mt_X11_findMatch⟩
theorem q_P253 : q_P 253 := fun _ => ⟨qm_X11_match, ⟨"WinkBankModel", "match", "()I"⟩, prog_13_method_91_code, (Option.some Jvm.ClassFile.FieldType.int), .code ⟨"WinkBankModel", "match", "()I"⟩ prog_13_method_91_code 1 (Option.some Jvm.ClassFile.FieldType.int), rfl, rfl, rfl, mm_X11_match, mt_X11_match⟩
theorem q_P254 : q_P 254 := fun _ => ⟨qm_X11_matched, ⟨"WinkBankModel", "matched", "(I)I"⟩, prog_13_method_92_code, (Option.some Jvm.ClassFile.FieldType.int), .code ⟨"WinkBankModel", "matched", "(I)I"⟩ prog_13_method_92_code 2 (Option.some Jvm.ClassFile.FieldType.int), rfl, rfl, rfl, mm_X11_matched, mt_X11_matched⟩
theorem q_P255 : q_P 255 := fun _ => ⟨qm_X11_fliesWith, ⟨"WinkBankModel", "fliesWith", "(III)I"⟩, prog_13_method_93_code, (Option.some Jvm.ClassFile.FieldType.int), .code ⟨"WinkBankModel", "fliesWith", "(III)I"⟩ prog_13_method_93_code 4 (Option.some Jvm.ClassFile.FieldType.int), rfl, rfl, rfl, mm_X11_fliesWith, mt_X11_fliesWith⟩
theorem q_P256 : q_P 256 := fun _ => ⟨qm_X11_isRight, ⟨"WinkBankModel", "isRight", "(II)Z"⟩, prog_13_method_94_code, (Option.some Jvm.ClassFile.FieldType.boolean), .code ⟨"WinkBankModel", "isRight", "(II)Z"⟩ prog_13_method_94_code 4 (Option.some Jvm.ClassFile.FieldType.boolean), rfl, rfl, rfl, mm_X11_isRight, mt_X11_isRight⟩
theorem q_P257 : q_P 257 := fun _ => ⟨qm_X11_fits, ⟨"WinkBankModel", "fits", "(II)I"⟩, prog_13_method_95_code, (Option.some Jvm.ClassFile.FieldType.int), .code ⟨"WinkBankModel", "fits", "(II)I"⟩ prog_13_method_95_code 6 (Option.some Jvm.ClassFile.FieldType.int), rfl, rfl, rfl, mm_X11_fits, mt_X11_fits⟩
theorem q_P258 : q_P 258 := fun _ => ⟨qm_X11_worstAt, ⟨"WinkBankModel", "worstAt", "(II)I"⟩, prog_13_method_96_code, (Option.some Jvm.ClassFile.FieldType.int), .code ⟨"WinkBankModel", "worstAt", "(II)I"⟩ prog_13_method_96_code 6 (Option.some Jvm.ClassFile.FieldType.int), rfl, rfl, rfl, mm_X11_worstAt, mt_X11_worstAt⟩
theorem q_P259 : q_P 259 := fun _ => ⟨qm_X11_look, ⟨"WinkBankModel", "look", "(II)I"⟩, prog_13_method_97_code, (Option.some Jvm.ClassFile.FieldType.int), .code ⟨"WinkBankModel", "look", "(II)I"⟩ prog_13_method_97_code 7 (Option.some Jvm.ClassFile.FieldType.int), rfl, rfl, rfl, mm_X11_look, mt_X11_look⟩
theorem q_P260 : q_P 260 := fun _ => ⟨qm_X11_hasBy, ⟨"WinkBankModel", "hasBy", "(IIII)I"⟩, prog_13_method_98_code, (Option.some Jvm.ClassFile.FieldType.int), .code ⟨"WinkBankModel", "hasBy", "(IIII)I"⟩ prog_13_method_98_code 8 (Option.some Jvm.ClassFile.FieldType.int), rfl, rfl, rfl, mm_X11_hasBy, mt_X11_hasBy⟩
theorem q_P261 : q_P 261 := fun _ => ⟨qm_X11_isRest, ⟨"WinkBankModel", "isRest", "(IIII)Z"⟩, prog_13_method_99_code, (Option.some Jvm.ClassFile.FieldType.boolean), .code ⟨"WinkBankModel", "isRest", "(IIII)Z"⟩ prog_13_method_99_code 6 (Option.some Jvm.ClassFile.FieldType.boolean), rfl, rfl, rfl, mm_X11_isRest, mt_X11_isRest⟩
theorem q_P262 : q_P 262 := fun _ => ⟨qm_X11_duel, ⟨"WinkBankModel", "duel", "(III)I"⟩, prog_13_method_100_code, (Option.some Jvm.ClassFile.FieldType.int), .code ⟨"WinkBankModel", "duel", "(III)I"⟩ prog_13_method_100_code 7 (Option.some Jvm.ClassFile.FieldType.int), rfl, rfl, rfl, mm_X11_duel, mt_X11_duel⟩
theorem q_P263 : q_P 263 := fun _ => ⟨qm_X11_panic, ⟨"WinkBankModel", "panic", "(II)I"⟩, prog_13_method_101_code, (Option.some Jvm.ClassFile.FieldType.int), .code ⟨"WinkBankModel", "panic", "(II)I"⟩ prog_13_method_101_code 7 (Option.some Jvm.ClassFile.FieldType.int), rfl, rfl, rfl, mm_X11_panic, mt_X11_panic⟩
theorem q_P264 : q_P 264 := fun _ => ⟨qm_X11_givenBy, ⟨"WinkBankModel", "givenBy", "(I)I"⟩, prog_13_method_102_code, (Option.some Jvm.ClassFile.FieldType.int), .code ⟨"WinkBankModel", "givenBy", "(I)I"⟩ prog_13_method_102_code 4 (Option.some Jvm.ClassFile.FieldType.int), rfl, rfl, rfl, mm_X11_givenBy, mt_X11_givenBy⟩
theorem q_P265 : q_P 265 := fun _ => ⟨qm_X11_level, ⟨"WinkBankModel", "level", "(II)I"⟩, prog_13_method_103_code, (Option.some Jvm.ClassFile.FieldType.int), .code ⟨"WinkBankModel", "level", "(II)I"⟩ prog_13_method_103_code 4 (Option.some Jvm.ClassFile.FieldType.int), rfl, rfl, rfl, mm_X11_level, mt_X11_level⟩
theorem q_P266 : q_P 266 := fun _ => ⟨qm_X11_trust, ⟨"WinkBankModel", "trust", "(I)I"⟩, prog_13_method_104_code, (Option.some Jvm.ClassFile.FieldType.int), .code ⟨"WinkBankModel", "trust", "(I)I"⟩ prog_13_method_104_code 5 (Option.some Jvm.ClassFile.FieldType.int), rfl, rfl, rfl, mm_X11_trust, mt_X11_trust⟩
theorem q_P267 : q_P 267 := fun _ => ⟨qm_X11_richest, ⟨"WinkBankModel", "richest", "(I)I"⟩, prog_13_method_105_code, (Option.some Jvm.ClassFile.FieldType.int), .code ⟨"WinkBankModel", "richest", "(I)I"⟩ prog_13_method_105_code 4 (Option.some Jvm.ClassFile.FieldType.int), rfl, rfl, rfl, mm_X11_richest, mt_X11_richest⟩
theorem q_P268 : q_P 268 := fun _ => ⟨qm_X11_ahead, ⟨"WinkBankModel", "ahead", "(II)I"⟩, prog_13_method_106_code, (Option.some Jvm.ClassFile.FieldType.int), .code ⟨"WinkBankModel", "ahead", "(II)I"⟩ prog_13_method_106_code 4 (Option.some Jvm.ClassFile.FieldType.int), rfl, rfl, rfl, mm_X11_ahead, mt_X11_ahead⟩
theorem q_P269 : q_P 269 := fun _ => ⟨qm_X11_draws, ⟨"WinkBankModel", "draws", "(I)I"⟩, prog_13_method_107_code, (Option.some Jvm.ClassFile.FieldType.int), .code ⟨"WinkBankModel", "draws", "(I)I"⟩ prog_13_method_107_code 2 (Option.some Jvm.ClassFile.FieldType.int), rfl, rfl, rfl, mm_X11_draws, mt_X11_draws⟩
theorem q_P270 : q_P 270 := fun _ => ⟨qm_X11_seasonGoes, ⟨"WinkBankModel", "seasonGoes", "(III)V"⟩, prog_13_method_108_code, (Option.none : Option Jvm.ClassFile.FieldType), .code ⟨"WinkBankModel", "seasonGoes", "(III)V"⟩ prog_13_method_108_code 7 (Option.none : Option Jvm.ClassFile.FieldType), rfl, rfl, rfl, mm_X11_seasonGoes, mt_X11_seasonGoes⟩
theorem q_P271 : q_P 271 := fun _ => ⟨qm_X11_manyOf, ⟨"WinkBankModel", "manyOf", "(I)I"⟩, prog_13_method_109_code, (Option.some Jvm.ClassFile.FieldType.int), .code ⟨"WinkBankModel", "manyOf", "(I)I"⟩ prog_13_method_109_code 4 (Option.some Jvm.ClassFile.FieldType.int), rfl, rfl, rfl, mm_X11_manyOf, mt_X11_manyOf⟩
theorem q_P272 : q_P 272 := fun _ => ⟨qm_X11_isSeason, ⟨"WinkBankModel", "isSeason", "(II)Z"⟩, prog_13_method_110_code, (Option.some Jvm.ClassFile.FieldType.boolean), .code ⟨"WinkBankModel", "isSeason", "(II)Z"⟩ prog_13_method_110_code 2 (Option.some Jvm.ClassFile.FieldType.boolean), rfl, rfl, rfl, mm_X11_isSeason, mt_X11_isSeason⟩
theorem q_P273 : q_P 273 := fun _ => ⟨qm_X11_season, ⟨"WinkBankModel", "season", "(IIII)I"⟩, prog_13_method_111_code, (Option.some Jvm.ClassFile.FieldType.int), .code ⟨"WinkBankModel", "season", "(IIII)I"⟩ prog_13_method_111_code 7 (Option.some Jvm.ClassFile.FieldType.int), rfl, rfl, rfl, mm_X11_season, mt_X11_season⟩
theorem q_P274 : q_P 274 := fun _ => ⟨qm_X11_span, ⟨"WinkBankModel", "span", "(IIIII)I"⟩, prog_13_method_112_code, (Option.some Jvm.ClassFile.FieldType.int), .code ⟨"WinkBankModel", "span", "(IIIII)I"⟩ prog_13_method_112_code 11 (Option.some Jvm.ClassFile.FieldType.int), rfl, rfl, rfl, mm_X11_span, mt_X11_span⟩
theorem q_P275 : q_P 275 := fun _ => ⟨qm_X11_keepsRow, ⟨"WinkBankModel", "keepsRow", "(I[IIZ)I"⟩, prog_13_method_113_code, (Option.some Jvm.ClassFile.FieldType.int), .code ⟨"WinkBankModel", "keepsRow", "(I[IIZ)I"⟩ prog_13_method_113_code 6 (Option.some Jvm.ClassFile.FieldType.int), rfl, rfl, rfl, mm_X11_keepsRow, mt_X11_keepsRow⟩
theorem q_P276 : q_P 276 := fun _ => ⟨qm_X11_keepsAll, ⟨"WinkBankModel", "keepsAll", "(IZ)V"⟩, prog_13_method_114_code, (Option.none : Option Jvm.ClassFile.FieldType), .code ⟨"WinkBankModel", "keepsAll", "(IZ)V"⟩ prog_13_method_114_code 4 (Option.none : Option Jvm.ClassFile.FieldType), rfl, rfl, rfl, mm_X11_keepsAll, mt_X11_keepsAll⟩
theorem q_P277 : q_P 277 := fun _ => ⟨qm_X11_image, ⟨"WinkBankModel", "image", "()I"⟩, prog_13_method_115_code, (Option.some Jvm.ClassFile.FieldType.int), .code ⟨"WinkBankModel", "image", "()I"⟩ prog_13_method_115_code 1 (Option.some Jvm.ClassFile.FieldType.int), rfl, rfl, rfl, mm_X11_image, mt_X11_image⟩
theorem q_P278 : q_P 278 := fun _ => ⟨qm_X11_restore, ⟨"WinkBankModel", "restore", "()I"⟩, prog_13_method_116_code, (Option.some Jvm.ClassFile.FieldType.int), .code ⟨"WinkBankModel", "restore", "()I"⟩ prog_13_method_116_code 1 (Option.some Jvm.ClassFile.FieldType.int), rfl, rfl, rfl, mm_X11_restore, mt_X11_restore⟩
theorem q_P279 : q_P 279 := fun _ => ⟨qm_X11_status, ⟨"WinkBankModel", "status", "(I)I"⟩, prog_13_method_117_code, (Option.some Jvm.ClassFile.FieldType.int), .code ⟨"WinkBankModel", "status", "(I)I"⟩ prog_13_method_117_code 2 (Option.some Jvm.ClassFile.FieldType.int), rfl, rfl, rfl, mm_X11_status, mt_X11_status⟩
theorem q_P280 : q_P 280 := fun _ => ⟨qm_X11_count, ⟨"WinkBankModel", "count", "(I)I"⟩, prog_13_method_118_code, (Option.some Jvm.ClassFile.FieldType.int), .code ⟨"WinkBankModel", "count", "(I)I"⟩ prog_13_method_118_code 2 (Option.some Jvm.ClassFile.FieldType.int), rfl, rfl, rfl, mm_X11_count, mt_X11_count⟩
theorem q_P281 : q_P 281 := fun _ => ⟨qm_L_room, ⟨"WinkBankLaw", "room", "(LWinkBank;I[J)I"⟩, method_3_code, (Option.some Jvm.ClassFile.FieldType.int), .codeWith ⟨"WinkBankLaw", "room", "(LWinkBank;I[J)I"⟩ method_3_code 4 (Option.some Jvm.ClassFile.FieldType.int) [((0 : Nat), (9 : Nat), (12 : Nat), (13 : Nat))], rfl, rfl, rfl, mm_L_room, mt_L_room⟩
theorem q_P282 : q_P 282 := fun _ => ⟨qm_L_law, ⟨"WinkBankLaw", "law", "(LWinkBank;I[J)I"⟩, method_4_code, (Option.some Jvm.ClassFile.FieldType.int), .codeWith ⟨"WinkBankLaw", "law", "(LWinkBank;I[J)I"⟩ method_4_code 4 (Option.some Jvm.ClassFile.FieldType.int) [((0 : Nat), (9 : Nat), (12 : Nat), (13 : Nat))], rfl, rfl, rfl, mm_L_law, mt_L_law⟩
theorem q_P283 : q_P 283 := fun _ => ⟨qm_L_play, ⟨"WinkBankLaw", "play", "(LWinkBank;I[J)I"⟩, method_5_code, (Option.some Jvm.ClassFile.FieldType.int), .codeWith ⟨"WinkBankLaw", "play", "(LWinkBank;I[J)I"⟩ method_5_code 4 (Option.some Jvm.ClassFile.FieldType.int) [((0 : Nat), (9 : Nat), (12 : Nat), (13 : Nat))], rfl, rfl, rfl, mm_L_play, mt_L_play⟩
theorem q_P284 : q_P 284 := fun _ => ⟨qm_L_book, ⟨"WinkBankLaw", "book", "(LWinkBank;I[J)I"⟩, method_6_code, (Option.some Jvm.ClassFile.FieldType.int), .codeWith ⟨"WinkBankLaw", "book", "(LWinkBank;I[J)I"⟩ method_6_code 4 (Option.some Jvm.ClassFile.FieldType.int) [((0 : Nat), (9 : Nat), (12 : Nat), (13 : Nat))], rfl, rfl, rfl, mm_L_book, mt_L_book⟩
theorem q_P285 : q_P 285 := fun _ => ⟨qm_L_told, ⟨"WinkBankLaw", "told", "(LWinkBank;I[J)I"⟩, method_7_code, (Option.some Jvm.ClassFile.FieldType.int), .codeWith ⟨"WinkBankLaw", "told", "(LWinkBank;I[J)I"⟩ method_7_code 4 (Option.some Jvm.ClassFile.FieldType.int) [((0 : Nat), (9 : Nat), (12 : Nat), (13 : Nat))], rfl, rfl, rfl, mm_L_told, mt_L_told⟩
theorem q_P286 : q_P 286 := fun _ => ⟨qm_L_house, ⟨"WinkBankLaw", "house", "(LWinkBank;II[J)I"⟩, method_8_code, (Option.some Jvm.ClassFile.FieldType.int), .codeWith ⟨"WinkBankLaw", "house", "(LWinkBank;II[J)I"⟩ method_8_code 5 (Option.some Jvm.ClassFile.FieldType.int) [((0 : Nat), (10 : Nat), (13 : Nat), (31 : Nat)), ((0 : Nat), (10 : Nat), (17 : Nat), (13 : Nat))], rfl, rfl, rfl, mm_L_house, mt_L_house⟩
theorem q_P287 : q_P 287 := fun _ => ⟨qm_L_wink, ⟨"WinkBankLaw", "wink", "(LWinkBank;II[J)I"⟩, method_9_code, (Option.some Jvm.ClassFile.FieldType.int), .codeWith ⟨"WinkBankLaw", "wink", "(LWinkBank;II[J)I"⟩ method_9_code 5 (Option.some Jvm.ClassFile.FieldType.int) [((0 : Nat), (10 : Nat), (13 : Nat), (31 : Nat)), ((0 : Nat), (10 : Nat), (17 : Nat), (13 : Nat))], rfl, rfl, rfl, mm_L_wink, mt_L_wink⟩
theorem q_P288 : q_P 288 := fun _ => ⟨qm_L_cup, ⟨"WinkBankLaw", "cup", "(LWinkBank;II[J)I"⟩, method_10_code, (Option.some Jvm.ClassFile.FieldType.int), .codeWith ⟨"WinkBankLaw", "cup", "(LWinkBank;II[J)I"⟩ method_10_code 5 (Option.some Jvm.ClassFile.FieldType.int) [((0 : Nat), (10 : Nat), (13 : Nat), (31 : Nat)), ((0 : Nat), (10 : Nat), (17 : Nat), (13 : Nat))], rfl, rfl, rfl, mm_L_cup, mt_L_cup⟩
theorem q_P289 : q_P 289 := fun _ => ⟨qm_L_cell, ⟨"WinkBankLaw", "cell", "(LWinkBank;II[J)I"⟩, method_11_code, (Option.some Jvm.ClassFile.FieldType.int), .codeWith ⟨"WinkBankLaw", "cell", "(LWinkBank;II[J)I"⟩ method_11_code 5 (Option.some Jvm.ClassFile.FieldType.int) [((0 : Nat), (10 : Nat), (13 : Nat), (31 : Nat)), ((0 : Nat), (10 : Nat), (17 : Nat), (13 : Nat))], rfl, rfl, rfl, mm_L_cell, mt_L_cell⟩
theorem q_P290 : q_P 290 := fun _ => ⟨qm_L_flies, ⟨"WinkBankLaw", "flies", "(LWinkBank;II[J)I"⟩, method_12_code, (Option.some Jvm.ClassFile.FieldType.int), .codeWith ⟨"WinkBankLaw", "flies", "(LWinkBank;II[J)I"⟩ method_12_code 5 (Option.some Jvm.ClassFile.FieldType.int) [((0 : Nat), (10 : Nat), (13 : Nat), (31 : Nat)), ((0 : Nat), (10 : Nat), (17 : Nat), (13 : Nat))], rfl, rfl, rfl, mm_L_flies, mt_L_flies⟩
theorem q_P291 : q_P 291 := fun _ => ⟨qm_L_would, ⟨"WinkBankLaw", "would", "(LWinkBank;IIIIIIIII[J)I"⟩, method_13_code, (Option.some Jvm.ClassFile.FieldType.int), .codeWith ⟨"WinkBankLaw", "would", "(LWinkBank;IIIIIIIII[J)I"⟩ method_13_code 12 (Option.some Jvm.ClassFile.FieldType.int) [((0 : Nat), (24 : Nat), (27 : Nat), (13 : Nat))], rfl, rfl, rfl, mm_L_would, mt_L_would⟩
theorem q_P292 : q_P 292 := fun _ => ⟨qm_L_down, ⟨"WinkBankLaw", "down", "(LWinkBank;III[J)I"⟩, method_14_code, (Option.some Jvm.ClassFile.FieldType.int), .codeWith ⟨"WinkBankLaw", "down", "(LWinkBank;III[J)I"⟩ method_14_code 6 (Option.some Jvm.ClassFile.FieldType.int) [((0 : Nat), (12 : Nat), (15 : Nat), (31 : Nat)), ((0 : Nat), (12 : Nat), (19 : Nat), (13 : Nat))], rfl, rfl, rfl, mm_L_down, mt_L_down⟩
theorem q_P293 : q_P 293 := fun _ => ⟨qm_L_presses, ⟨"WinkBankLaw", "presses", "(LWinkBank;II[J)I"⟩, method_15_code, (Option.some Jvm.ClassFile.FieldType.int), .codeWith ⟨"WinkBankLaw", "presses", "(LWinkBank;II[J)I"⟩ method_15_code 5 (Option.some Jvm.ClassFile.FieldType.int) [((0 : Nat), (10 : Nat), (13 : Nat), (31 : Nat)), ((0 : Nat), (10 : Nat), (17 : Nat), (13 : Nat))], rfl, rfl, rfl, mm_L_presses, mt_L_presses⟩
theorem q_P294 : q_P 294 := fun _ => ⟨qm_L_gain, ⟨"WinkBankLaw", "gain", "(LWinkBank;II[J)I"⟩, method_16_code, (Option.some Jvm.ClassFile.FieldType.int), .codeWith ⟨"WinkBankLaw", "gain", "(LWinkBank;II[J)I"⟩ method_16_code 5 (Option.some Jvm.ClassFile.FieldType.int) [((0 : Nat), (10 : Nat), (13 : Nat), (31 : Nat)), ((0 : Nat), (10 : Nat), (17 : Nat), (13 : Nat))], rfl, rfl, rfl, mm_L_gain, mt_L_gain⟩
theorem q_P295 : q_P 295 := fun _ => ⟨qm_L_way, ⟨"WinkBankLaw", "way", "(LWinkBank;II[J)I"⟩, method_17_code, (Option.some Jvm.ClassFile.FieldType.int), .codeWith ⟨"WinkBankLaw", "way", "(LWinkBank;II[J)I"⟩ method_17_code 5 (Option.some Jvm.ClassFile.FieldType.int) [((0 : Nat), (10 : Nat), (13 : Nat), (31 : Nat)), ((0 : Nat), (10 : Nat), (17 : Nat), (13 : Nat))], rfl, rfl, rfl, mm_L_way, mt_L_way⟩
theorem q_P296 : q_P 296 := fun _ => ⟨qm_L_odds, ⟨"WinkBankLaw", "odds", "(LWinkBank;IIII[J)I"⟩, method_18_code, (Option.some Jvm.ClassFile.FieldType.int), .codeWith ⟨"WinkBankLaw", "odds", "(LWinkBank;IIII[J)I"⟩ method_18_code 7 (Option.some Jvm.ClassFile.FieldType.int) [((0 : Nat), (14 : Nat), (17 : Nat), (31 : Nat)), ((0 : Nat), (14 : Nat), (21 : Nat), (13 : Nat))], rfl, rfl, rfl, mm_L_odds, mt_L_odds⟩
theorem q_P297 : q_P 297 := fun _ => ⟨qm_L_mean, ⟨"WinkBankLaw", "mean", "(LWinkBank;IIII[J)I"⟩, method_19_code, (Option.some Jvm.ClassFile.FieldType.int), .codeWith ⟨"WinkBankLaw", "mean", "(LWinkBank;IIII[J)I"⟩ method_19_code 7 (Option.some Jvm.ClassFile.FieldType.int) [((0 : Nat), (14 : Nat), (17 : Nat), (31 : Nat)), ((0 : Nat), (14 : Nat), (21 : Nat), (13 : Nat))], rfl, rfl, rfl, mm_L_mean, mt_L_mean⟩
theorem q_P298 : q_P 298 := fun _ => ⟨qm_L_matched, ⟨"WinkBankLaw", "matched", "(LWinkBank;I[J)I"⟩, method_20_code, (Option.some Jvm.ClassFile.FieldType.int), .codeWith ⟨"WinkBankLaw", "matched", "(LWinkBank;I[J)I"⟩ method_20_code 4 (Option.some Jvm.ClassFile.FieldType.int) [((0 : Nat), (9 : Nat), (12 : Nat), (31 : Nat))], rfl, rfl, rfl, mm_L_matched, mt_L_matched⟩
theorem q_P299 : q_P 299 := fun _ => ⟨qm_L_fits, ⟨"WinkBankLaw", "fits", "(LWinkBank;II[J)I"⟩, method_21_code, (Option.some Jvm.ClassFile.FieldType.int), .codeWith ⟨"WinkBankLaw", "fits", "(LWinkBank;II[J)I"⟩ method_21_code 5 (Option.some Jvm.ClassFile.FieldType.int) [((0 : Nat), (10 : Nat), (13 : Nat), (31 : Nat)), ((0 : Nat), (10 : Nat), (17 : Nat), (13 : Nat))], rfl, rfl, rfl, mm_L_fits, mt_L_fits⟩
theorem q_P300 : q_P 300 := fun _ => ⟨qm_L_look, ⟨"WinkBankLaw", "look", "(LWinkBank;II[J)I"⟩, method_22_code, (Option.some Jvm.ClassFile.FieldType.int), .codeWith ⟨"WinkBankLaw", "look", "(LWinkBank;II[J)I"⟩ method_22_code 5 (Option.some Jvm.ClassFile.FieldType.int) [((0 : Nat), (10 : Nat), (13 : Nat), (31 : Nat)), ((0 : Nat), (10 : Nat), (17 : Nat), (13 : Nat))], rfl, rfl, rfl, mm_L_look, mt_L_look⟩
theorem q_P301 : q_P 301 := fun _ => ⟨qm_L_duel, ⟨"WinkBankLaw", "duel", "(LWinkBank;III[J)I"⟩, method_23_code, (Option.some Jvm.ClassFile.FieldType.int), .codeWith ⟨"WinkBankLaw", "duel", "(LWinkBank;III[J)I"⟩ method_23_code 6 (Option.some Jvm.ClassFile.FieldType.int) [((0 : Nat), (12 : Nat), (15 : Nat), (31 : Nat)), ((0 : Nat), (12 : Nat), (19 : Nat), (13 : Nat))], rfl, rfl, rfl, mm_L_duel, mt_L_duel⟩
theorem q_P302 : q_P 302 := fun _ => ⟨qm_L_panic, ⟨"WinkBankLaw", "panic", "(LWinkBank;II[J)I"⟩, method_24_code, (Option.some Jvm.ClassFile.FieldType.int), .codeWith ⟨"WinkBankLaw", "panic", "(LWinkBank;II[J)I"⟩ method_24_code 5 (Option.some Jvm.ClassFile.FieldType.int) [((0 : Nat), (10 : Nat), (13 : Nat), (13 : Nat))], rfl, rfl, rfl, mm_L_panic, mt_L_panic⟩
theorem q_P303 : q_P 303 := fun _ => ⟨qm_L_level, ⟨"WinkBankLaw", "level", "(LWinkBank;II[J)I"⟩, method_25_code, (Option.some Jvm.ClassFile.FieldType.int), .codeWith ⟨"WinkBankLaw", "level", "(LWinkBank;II[J)I"⟩ method_25_code 5 (Option.some Jvm.ClassFile.FieldType.int) [((0 : Nat), (10 : Nat), (13 : Nat), (31 : Nat)), ((0 : Nat), (10 : Nat), (17 : Nat), (13 : Nat))], rfl, rfl, rfl, mm_L_level, mt_L_level⟩
theorem q_P304 : q_P 304 := fun _ => ⟨qm_L_trust, ⟨"WinkBankLaw", "trust", "(LWinkBank;I[J)I"⟩, method_26_code, (Option.some Jvm.ClassFile.FieldType.int), .codeWith ⟨"WinkBankLaw", "trust", "(LWinkBank;I[J)I"⟩ method_26_code 4 (Option.some Jvm.ClassFile.FieldType.int) [((0 : Nat), (9 : Nat), (12 : Nat), (13 : Nat))], rfl, rfl, rfl, mm_L_trust, mt_L_trust⟩
theorem q_P305 : q_P 305 := fun _ => ⟨qm_L_richest, ⟨"WinkBankLaw", "richest", "(LWinkBank;I[J)I"⟩, method_27_code, (Option.some Jvm.ClassFile.FieldType.int), .codeWith ⟨"WinkBankLaw", "richest", "(LWinkBank;I[J)I"⟩ method_27_code 4 (Option.some Jvm.ClassFile.FieldType.int) [((0 : Nat), (9 : Nat), (12 : Nat), (13 : Nat))], rfl, rfl, rfl, mm_L_richest, mt_L_richest⟩
theorem q_P306 : q_P 306 := fun _ => ⟨qm_L_ahead, ⟨"WinkBankLaw", "ahead", "(LWinkBank;II[J)I"⟩, method_28_code, (Option.some Jvm.ClassFile.FieldType.int), .codeWith ⟨"WinkBankLaw", "ahead", "(LWinkBank;II[J)I"⟩ method_28_code 5 (Option.some Jvm.ClassFile.FieldType.int) [((0 : Nat), (10 : Nat), (13 : Nat), (31 : Nat)), ((0 : Nat), (10 : Nat), (17 : Nat), (13 : Nat))], rfl, rfl, rfl, mm_L_ahead, mt_L_ahead⟩
theorem q_P307 : q_P 307 := fun _ => ⟨qm_L_season, ⟨"WinkBankLaw", "season", "(LWinkBank;IIII[J)I"⟩, method_29_code, (Option.some Jvm.ClassFile.FieldType.int), .codeWith ⟨"WinkBankLaw", "season", "(LWinkBank;IIII[J)I"⟩ method_29_code 7 (Option.some Jvm.ClassFile.FieldType.int) [((0 : Nat), (14 : Nat), (17 : Nat), (13 : Nat))], rfl, rfl, rfl, mm_L_season, mt_L_season⟩
theorem q_P308 : q_P 308 := fun _ => ⟨qm_L_span, ⟨"WinkBankLaw", "span", "(LWinkBank;IIIII[J)I"⟩, method_30_code, (Option.some Jvm.ClassFile.FieldType.int), .codeWith ⟨"WinkBankLaw", "span", "(LWinkBank;IIIII[J)I"⟩ method_30_code 8 (Option.some Jvm.ClassFile.FieldType.int) [((0 : Nat), (16 : Nat), (19 : Nat), (13 : Nat))], rfl, rfl, rfl, mm_L_span, mt_L_span⟩
theorem q_P309 : q_P 309 := fun h => absurd rfl h
theorem q_P310 : q_P 310 := fun _ => ⟨qm_J6_bitCount_0f7a4, ⟨"java/lang/Integer", "bitCount", "(I)I"⟩, prog_19_method_49_code, (Option.some Jvm.ClassFile.FieldType.int), .code ⟨"java/lang/Integer", "bitCount", "(I)I"⟩ prog_19_method_49_code 1 (Option.some Jvm.ClassFile.FieldType.int), rfl, rfl, rfl, mm_J6_bitCount_0f7a4, mt_J6_bitCount_0f7a4⟩
theorem q_Pc0 : ∀ r, r < 16 → q_P (0 + r) := by
  intro r hr
  match r, hr with
  | 0, _ => exact q_P0
  | 1, _ => exact q_P1
  | 2, _ => exact q_P2
  | 3, _ => exact q_P3
  | 4, _ => exact q_P4
  | 5, _ => exact q_P5
  | 6, _ => exact q_P6
  | 7, _ => exact q_P7
  | 8, _ => exact q_P8
  | 9, _ => exact q_P9
  | 10, _ => exact q_P10
  | 11, _ => exact q_P11
  | 12, _ => exact q_P12
  | 13, _ => exact q_P13
  | 14, _ => exact q_P14
  | 15, _ => exact q_P15
  | r + 16, h => exact absurd h (by omega)
theorem q_Pc1 : ∀ r, r < 16 → q_P (16 + r) := by
  intro r hr
  match r, hr with
  | 0, _ => exact q_P16
  | 1, _ => exact q_P17
  | 2, _ => exact q_P18
  | 3, _ => exact q_P19
  | 4, _ => exact q_P20
  | 5, _ => exact q_P21
  | 6, _ => exact q_P22
  | 7, _ => exact q_P23
  | 8, _ => exact q_P24
  | 9, _ => exact q_P25
  | 10, _ => exact q_P26
  | 11, _ => exact q_P27
  | 12, _ => exact q_P28
  | 13, _ => exact q_P29
  | 14, _ => exact q_P30
  | 15, _ => exact q_P31
  | r + 16, h => exact absurd h (by omega)
theorem q_Pc2 : ∀ r, r < 16 → q_P (32 + r) := by
  intro r hr
  match r, hr with
  | 0, _ => exact q_P32
  | 1, _ => exact q_P33
  | 2, _ => exact q_P34
  | 3, _ => exact q_P35
  | 4, _ => exact q_P36
  | 5, _ => exact q_P37
  | 6, _ => exact q_P38
  | 7, _ => exact q_P39
  | 8, _ => exact q_P40
  | 9, _ => exact q_P41
  | 10, _ => exact q_P42
  | 11, _ => exact q_P43
  | 12, _ => exact q_P44
  | 13, _ => exact q_P45
  | 14, _ => exact q_P46
  | 15, _ => exact q_P47
  | r + 16, h => exact absurd h (by omega)
theorem q_Pc3 : ∀ r, r < 16 → q_P (48 + r) := by
  intro r hr
  match r, hr with
  | 0, _ => exact q_P48
  | 1, _ => exact q_P49
  | 2, _ => exact q_P50
  | 3, _ => exact q_P51
  | 4, _ => exact q_P52
  | 5, _ => exact q_P53
  | 6, _ => exact q_P54
  | 7, _ => exact q_P55
  | 8, _ => exact q_P56
  | 9, _ => exact q_P57
  | 10, _ => exact q_P58
  | 11, _ => exact q_P59
  | 12, _ => exact q_P60
  | 13, _ => exact q_P61
  | 14, _ => exact q_P62
  | 15, _ => exact q_P63
  | r + 16, h => exact absurd h (by omega)
theorem q_Pc4 : ∀ r, r < 16 → q_P (64 + r) := by
  intro r hr
  match r, hr with
  | 0, _ => exact q_P64
  | 1, _ => exact q_P65
  | 2, _ => exact q_P66
  | 3, _ => exact q_P67
  | 4, _ => exact q_P68
  | 5, _ => exact q_P69
  | 6, _ => exact q_P70
  | 7, _ => exact q_P71
  | 8, _ => exact q_P72
  | 9, _ => exact q_P73
  | 10, _ => exact q_P74
  | 11, _ => exact q_P75
  | 12, _ => exact q_P76
  | 13, _ => exact q_P77
  | 14, _ => exact q_P78
  | 15, _ => exact q_P79
  | r + 16, h => exact absurd h (by omega)
theorem q_Pc5 : ∀ r, r < 16 → q_P (80 + r) := by
  intro r hr
  match r, hr with
  | 0, _ => exact q_P80
  | 1, _ => exact q_P81
  | 2, _ => exact q_P82
  | 3, _ => exact q_P83
  | 4, _ => exact q_P84
  | 5, _ => exact q_P85
  | 6, _ => exact q_P86
  | 7, _ => exact q_P87
  | 8, _ => exact q_P88
  | 9, _ => exact q_P89
  | 10, _ => exact q_P90
  | 11, _ => exact q_P91
  | 12, _ => exact q_P92
  | 13, _ => exact q_P93
  | 14, _ => exact q_P94
  | 15, _ => exact q_P95
  | r + 16, h => exact absurd h (by omega)
theorem q_Pc6 : ∀ r, r < 16 → q_P (96 + r) := by
  intro r hr
  match r, hr with
  | 0, _ => exact q_P96
  | 1, _ => exact q_P97
  | 2, _ => exact q_P98
  | 3, _ => exact q_P99
  | 4, _ => exact q_P100
  | 5, _ => exact q_P101
  | 6, _ => exact q_P102
  | 7, _ => exact q_P103
  | 8, _ => exact q_P104
  | 9, _ => exact q_P105
  | 10, _ => exact q_P106
  | 11, _ => exact q_P107
  | 12, _ => exact q_P108
  | 13, _ => exact q_P109
  | 14, _ => exact q_P110
  | 15, _ => exact q_P111
  | r + 16, h => exact absurd h (by omega)
theorem q_Pc7 : ∀ r, r < 16 → q_P (112 + r) := by
  intro r hr
  match r, hr with
  | 0, _ => exact q_P112
  | 1, _ => exact q_P113
  | 2, _ => exact q_P114
  | 3, _ => exact q_P115
  | 4, _ => exact q_P116
  | 5, _ => exact q_P117
  | 6, _ => exact q_P118
  | 7, _ => exact q_P119
  | 8, _ => exact q_P120
  | 9, _ => exact q_P121
  | 10, _ => exact q_P122
  | 11, _ => exact q_P123
  | 12, _ => exact q_P124
  | 13, _ => exact q_P125
  | 14, _ => exact q_P126
  | 15, _ => exact q_P127
  | r + 16, h => exact absurd h (by omega)
theorem q_Pc8 : ∀ r, r < 16 → q_P (128 + r) := by
  intro r hr
  match r, hr with
  | 0, _ => exact q_P128
  | 1, _ => exact q_P129
  | 2, _ => exact q_P130
  | 3, _ => exact q_P131
  | 4, _ => exact q_P132
  | 5, _ => exact q_P133
  | 6, _ => exact q_P134
  | 7, _ => exact q_P135
  | 8, _ => exact q_P136
  | 9, _ => exact q_P137
  | 10, _ => exact q_P138
  | 11, _ => exact q_P139
  | 12, _ => exact q_P140
  | 13, _ => exact q_P141
  | 14, _ => exact q_P142
  | 15, _ => exact q_P143
  | r + 16, h => exact absurd h (by omega)
theorem q_Pc9 : ∀ r, r < 16 → q_P (144 + r) := by
  intro r hr
  match r, hr with
  | 0, _ => exact q_P144
  | 1, _ => exact q_P145
  | 2, _ => exact q_P146
  | 3, _ => exact q_P147
  | 4, _ => exact q_P148
  | 5, _ => exact q_P149
  | 6, _ => exact q_P150
  | 7, _ => exact q_P151
  | 8, _ => exact q_P152
  | 9, _ => exact q_P153
  | 10, _ => exact q_P154
  | 11, _ => exact q_P155
  | 12, _ => exact q_P156
  | 13, _ => exact q_P157
  | 14, _ => exact q_P158
  | 15, _ => exact q_P159
  | r + 16, h => exact absurd h (by omega)
theorem q_Pc10 : ∀ r, r < 16 → q_P (160 + r) := by
  intro r hr
  match r, hr with
  | 0, _ => exact q_P160
  | 1, _ => exact q_P161
  | 2, _ => exact q_P162
  | 3, _ => exact q_P163
  | 4, _ => exact q_P164
  | 5, _ => exact q_P165
  | 6, _ => exact q_P166
  | 7, _ => exact q_P167
  | 8, _ => exact q_P168
  | 9, _ => exact q_P169
  | 10, _ => exact q_P170
  | 11, _ => exact q_P171
  | 12, _ => exact q_P172
  | 13, _ => exact q_P173
  | 14, _ => exact q_P174
  | 15, _ => exact q_P175
  | r + 16, h => exact absurd h (by omega)
theorem q_Pc11 : ∀ r, r < 16 → q_P (176 + r) := by
  intro r hr
  match r, hr with
  | 0, _ => exact q_P176
  | 1, _ => exact q_P177
  | 2, _ => exact q_P178
  | 3, _ => exact q_P179
  | 4, _ => exact q_P180
  | 5, _ => exact q_P181
  | 6, _ => exact q_P182
  | 7, _ => exact q_P183
  | 8, _ => exact q_P184
  | 9, _ => exact q_P185
  | 10, _ => exact q_P186
  | 11, _ => exact q_P187
  | 12, _ => exact q_P188
  | 13, _ => exact q_P189
  | 14, _ => exact q_P190
  | 15, _ => exact q_P191
  | r + 16, h => exact absurd h (by omega)
theorem q_Pc12 : ∀ r, r < 16 → q_P (192 + r) := by
  intro r hr
  match r, hr with
  | 0, _ => exact q_P192
  | 1, _ => exact q_P193
  | 2, _ => exact q_P194
  | 3, _ => exact q_P195
  | 4, _ => exact q_P196
  | 5, _ => exact q_P197
  | 6, _ => exact q_P198
  | 7, _ => exact q_P199
  | 8, _ => exact q_P200
  | 9, _ => exact q_P201
  | 10, _ => exact q_P202
  | 11, _ => exact q_P203
  | 12, _ => exact q_P204
  | 13, _ => exact q_P205
  | 14, _ => exact q_P206
  | 15, _ => exact q_P207
  | r + 16, h => exact absurd h (by omega)
theorem q_Pc13 : ∀ r, r < 16 → q_P (208 + r) := by
  intro r hr
  match r, hr with
  | 0, _ => exact q_P208
  | 1, _ => exact q_P209
  | 2, _ => exact q_P210
  | 3, _ => exact q_P211
  | 4, _ => exact q_P212
  | 5, _ => exact q_P213
  | 6, _ => exact q_P214
  | 7, _ => exact q_P215
  | 8, _ => exact q_P216
  | 9, _ => exact q_P217
  | 10, _ => exact q_P218
  | 11, _ => exact q_P219
  | 12, _ => exact q_P220
  | 13, _ => exact q_P221
  | 14, _ => exact q_P222
  | 15, _ => exact q_P223
  | r + 16, h => exact absurd h (by omega)
theorem q_Pc14 : ∀ r, r < 16 → q_P (224 + r) := by
  intro r hr
  match r, hr with
  | 0, _ => exact q_P224
  | 1, _ => exact q_P225
  | 2, _ => exact q_P226
  | 3, _ => exact q_P227
  | 4, _ => exact q_P228
  | 5, _ => exact q_P229
  | 6, _ => exact q_P230
  | 7, _ => exact q_P231
  | 8, _ => exact q_P232
  | 9, _ => exact q_P233
  | 10, _ => exact q_P234
  | 11, _ => exact q_P235
  | 12, _ => exact q_P236
  | 13, _ => exact q_P237
  | 14, _ => exact q_P238
  | 15, _ => exact q_P239
  | r + 16, h => exact absurd h (by omega)
theorem q_Pc15 : ∀ r, r < 16 → q_P (240 + r) := by
  intro r hr
  match r, hr with
  | 0, _ => exact q_P240
  | 1, _ => exact q_P241
  | 2, _ => exact q_P242
  | 3, _ => exact q_P243
  | 4, _ => exact q_P244
  | 5, _ => exact q_P245
  | 6, _ => exact q_P246
  | 7, _ => exact q_P247
  | 8, _ => exact q_P248
  | 9, _ => exact q_P249
  | 10, _ => exact q_P250
  | 11, _ => exact q_P251
  | 12, _ => exact q_P252
  | 13, _ => exact q_P253
  | 14, _ => exact q_P254
  | 15, _ => exact q_P255
  | r + 16, h => exact absurd h (by omega)
theorem q_Pc16 : ∀ r, r < 16 → q_P (256 + r) := by
  intro r hr
  match r, hr with
  | 0, _ => exact q_P256
  | 1, _ => exact q_P257
  | 2, _ => exact q_P258
  | 3, _ => exact q_P259
  | 4, _ => exact q_P260
  | 5, _ => exact q_P261
  | 6, _ => exact q_P262
  | 7, _ => exact q_P263
  | 8, _ => exact q_P264
  | 9, _ => exact q_P265
  | 10, _ => exact q_P266
  | 11, _ => exact q_P267
  | 12, _ => exact q_P268
  | 13, _ => exact q_P269
  | 14, _ => exact q_P270
  | 15, _ => exact q_P271
  | r + 16, h => exact absurd h (by omega)
theorem q_Pc17 : ∀ r, r < 16 → q_P (272 + r) := by
  intro r hr
  match r, hr with
  | 0, _ => exact q_P272
  | 1, _ => exact q_P273
  | 2, _ => exact q_P274
  | 3, _ => exact q_P275
  | 4, _ => exact q_P276
  | 5, _ => exact q_P277
  | 6, _ => exact q_P278
  | 7, _ => exact q_P279
  | 8, _ => exact q_P280
  | 9, _ => exact q_P281
  | 10, _ => exact q_P282
  | 11, _ => exact q_P283
  | 12, _ => exact q_P284
  | 13, _ => exact q_P285
  | 14, _ => exact q_P286
  | 15, _ => exact q_P287
  | r + 16, h => exact absurd h (by omega)
theorem q_Pc18 : ∀ r, r < 16 → q_P (288 + r) := by
  intro r hr
  match r, hr with
  | 0, _ => exact q_P288
  | 1, _ => exact q_P289
  | 2, _ => exact q_P290
  | 3, _ => exact q_P291
  | 4, _ => exact q_P292
  | 5, _ => exact q_P293
  | 6, _ => exact q_P294
  | 7, _ => exact q_P295
  | 8, _ => exact q_P296
  | 9, _ => exact q_P297
  | 10, _ => exact q_P298
  | 11, _ => exact q_P299
  | 12, _ => exact q_P300
  | 13, _ => exact q_P301
  | 14, _ => exact q_P302
  | 15, _ => exact q_P303
  | r + 16, h => exact absurd h (by omega)
theorem q_Pc19 : ∀ r, r < 7 → q_P (304 + r) := by
  intro r hr
  match r, hr with
  | 0, _ => exact q_P304
  | 1, _ => exact q_P305
  | 2, _ => exact q_P306
  | 3, _ => exact q_P307
  | 4, _ => exact q_P308
  | 5, _ => exact q_P309
  | 6, _ => exact q_P310
  | r + 7, h => exact absurd h (by omega)
theorem q_Pall : ∀ mi, mi < 311 → q_P mi := by
  intro mi h
  by_cases h0 : mi < 16
  · have := q_Pc0 (mi - 0) (by omega)
    rwa [show 0 + (mi - 0) = mi by omega] at this
  by_cases h1 : mi < 32
  · have := q_Pc1 (mi - 16) (by omega)
    rwa [show 16 + (mi - 16) = mi by omega] at this
  by_cases h2 : mi < 48
  · have := q_Pc2 (mi - 32) (by omega)
    rwa [show 32 + (mi - 32) = mi by omega] at this
  by_cases h3 : mi < 64
  · have := q_Pc3 (mi - 48) (by omega)
    rwa [show 48 + (mi - 48) = mi by omega] at this
  by_cases h4 : mi < 80
  · have := q_Pc4 (mi - 64) (by omega)
    rwa [show 64 + (mi - 64) = mi by omega] at this
  by_cases h5 : mi < 96
  · have := q_Pc5 (mi - 80) (by omega)
    rwa [show 80 + (mi - 80) = mi by omega] at this
  by_cases h6 : mi < 112
  · have := q_Pc6 (mi - 96) (by omega)
    rwa [show 96 + (mi - 96) = mi by omega] at this
  by_cases h7 : mi < 128
  · have := q_Pc7 (mi - 112) (by omega)
    rwa [show 112 + (mi - 112) = mi by omega] at this
  by_cases h8 : mi < 144
  · have := q_Pc8 (mi - 128) (by omega)
    rwa [show 128 + (mi - 128) = mi by omega] at this
  by_cases h9 : mi < 160
  · have := q_Pc9 (mi - 144) (by omega)
    rwa [show 144 + (mi - 144) = mi by omega] at this
  by_cases h10 : mi < 176
  · have := q_Pc10 (mi - 160) (by omega)
    rwa [show 160 + (mi - 160) = mi by omega] at this
  by_cases h11 : mi < 192
  · have := q_Pc11 (mi - 176) (by omega)
    rwa [show 176 + (mi - 176) = mi by omega] at this
  by_cases h12 : mi < 208
  · have := q_Pc12 (mi - 192) (by omega)
    rwa [show 192 + (mi - 192) = mi by omega] at this
  by_cases h13 : mi < 224
  · have := q_Pc13 (mi - 208) (by omega)
    rwa [show 208 + (mi - 208) = mi by omega] at this
  by_cases h14 : mi < 240
  · have := q_Pc14 (mi - 224) (by omega)
    rwa [show 224 + (mi - 224) = mi by omega] at this
  by_cases h15 : mi < 256
  · have := q_Pc15 (mi - 240) (by omega)
    rwa [show 240 + (mi - 240) = mi by omega] at this
  by_cases h16 : mi < 272
  · have := q_Pc16 (mi - 256) (by omega)
    rwa [show 256 + (mi - 256) = mi by omega] at this
  by_cases h17 : mi < 288
  · have := q_Pc17 (mi - 272) (by omega)
    rwa [show 272 + (mi - 272) = mi by omega] at this
  by_cases h18 : mi < 304
  · have := q_Pc18 (mi - 288) (by omega)
    rwa [show 288 + (mi - 288) = mi by omega] at this
  have := q_Pc19 (mi - 304) (by omega)
  rwa [show 304 + (mi - 304) = mi by omega] at this
theorem q_Pany (mi : Nat) : q_P mi := by
  by_cases h : mi < 311
  · exact q_Pall mi h
  · intro hk
    exact absurd (by rw [List.getD_eq_getElem?_getD, List.getElem?_eq_none (by show q_kd.length ≤ mi; exact Nat.le_trans (by decide +kernel : q_kd.length ≤ 311) (Nat.not_lt.mp h))]; rfl) hk
theorem q_mAllOK : q_mAll := fun mi hk => by
  obtain ⟨M, y, bytes, ret, cw, h1, h2, h3, h4, -⟩ := q_Pany mi hk
  exact ⟨M, y, bytes, ret, cw, h1, h2, h3, h4⟩
theorem q_thAll : ∀ mi M y bytes ret cw, q_MT[mi]? = some M → q_mi[mi]? = some (y, bytes, ret) → q_cws[mi]? = some cw → q_kd.getD mi 9 ≠ 9 → q_thOK M y := by
  intro mi M y bytes ret cw h1 h2 h3 hk
  obtain ⟨M', y', bytes', ret', cw', g1, g2, g3, -, g5⟩ := q_Pany mi hk
  cases Option.some.inj (g1.symm.trans h1)
  cases Option.some.inj (g2.symm.trans h2)
  exact g5
/-- every run of the small machine's calls is a contract of the machine's -/
theorem q_contracts (X : qX) (l : Launch) (htr : l.stackTraces = false) : ∀ d mi, x_M X l d mi := x_Mall htr q_mAllOK q_thAll (xs_SL X l) (xs_SC X l)
