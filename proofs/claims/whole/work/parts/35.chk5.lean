theorem mr_L_season : q_rowsB qm_L_season ⟨"WinkBankLaw", "season", "(LWinkBank;IIII[J)I"⟩ method_29_code (Option.some Jvm.ClassFile.FieldType.int) = true := by decide +kernel
theorem ml_L_season : (qm_L_season.2.1.map fun x => q_lw "WinkBankLaw" x.1 x.2) = ([1504] : List Nat).filterMap (fun i => lw_tbl[i]?) := by decide +kernel
theorem mo_L_season : (qm_L_season.2.1.all fun x => q_lkOK "WinkBankLaw" x.1 x.2) = true := by decide +kernel
theorem mm_L_season : q_mOK 307 qm_L_season ⟨"WinkBankLaw", "season", "(LWinkBank;IIII[J)I"⟩ method_29_code (Option.some Jvm.ClassFile.FieldType.int) (.codeWith ⟨"WinkBankLaw", "season", "(LWinkBank;IIII[J)I"⟩ method_29_code 7 (Option.some Jvm.ClassFile.FieldType.int) [((0 : Nat), (14 : Nat), (17 : Nat), (13 : Nat))]) := ⟨q_rowsOf mr_L_season, q_linkOf ml_L_season, fun x h => List.all_eq_true.mp mo_L_season x h, List.mem_filter.mpr ⟨List.mem_of_getElem? (i := 1503) (by decide +kernel), by decide +kernel⟩, List.mem_filter.mpr ⟨List.mem_of_getElem? (i := 131) (by decide +kernel), by decide +kernel⟩, by decide +kernel, ⟨by decide +kernel, by decide +kernel⟩, by decide, ⟨⟨_, rfl, ⟨⟨rfl, rfl, rfl, by decide, by decide, List.mem_filter.mpr ⟨List.mem_of_getElem? (i := 763) (by decide +kernel), by decide +kernel⟩⟩, trivial⟩⟩, List.mem_filter.mpr ⟨List.mem_of_getElem? (i := 1502) (by decide +kernel), by decide +kernel⟩⟩⟩
theorem mt_L_season : q_thOK qm_L_season ⟨"WinkBankLaw", "season", "(LWinkBank;IIII[J)I"⟩ := q_thNo (by decide +kernel)
theorem mr_L_span : q_rowsB qm_L_span ⟨"WinkBankLaw", "span", "(LWinkBank;IIIII[J)I"⟩ method_30_code (Option.some Jvm.ClassFile.FieldType.int) = true := by decide +kernel
theorem ml_L_span : (qm_L_span.2.1.map fun x => q_lw "WinkBankLaw" x.1 x.2) = ([1523] : List Nat).filterMap (fun i => lw_tbl[i]?) := by decide +kernel
theorem mo_L_span : (qm_L_span.2.1.all fun x => q_lkOK "WinkBankLaw" x.1 x.2) = true := by decide +kernel
theorem mm_L_span : q_mOK 308 qm_L_span ⟨"WinkBankLaw", "span", "(LWinkBank;IIIII[J)I"⟩ method_30_code (Option.some Jvm.ClassFile.FieldType.int) (.codeWith ⟨"WinkBankLaw", "span", "(LWinkBank;IIIII[J)I"⟩ method_30_code 8 (Option.some Jvm.ClassFile.FieldType.int) [((0 : Nat), (16 : Nat), (19 : Nat), (13 : Nat))]) := ⟨q_rowsOf mr_L_span, q_linkOf ml_L_span, fun x h => List.all_eq_true.mp mo_L_span x h, List.mem_filter.mpr ⟨List.mem_of_getElem? (i := 1522) (by decide +kernel), by decide +kernel⟩, List.mem_filter.mpr ⟨List.mem_of_getElem? (i := 131) (by decide +kernel), by decide +kernel⟩, by decide +kernel, ⟨by decide +kernel, by decide +kernel⟩, by decide, ⟨⟨_, rfl, ⟨⟨rfl, rfl, rfl, by decide, by decide, List.mem_filter.mpr ⟨List.mem_of_getElem? (i := 763) (by decide +kernel), by decide +kernel⟩⟩, trivial⟩⟩, List.mem_filter.mpr ⟨List.mem_of_getElem? (i := 1521) (by decide +kernel), by decide +kernel⟩⟩⟩
theorem mt_L_span : q_thOK qm_L_span ⟨"WinkBankLaw", "span", "(LWinkBank;IIIII[J)I"⟩ := q_thNo (by decide +kernel)
noncomputable def mp_L_law_ : (Nat × Instr × Nat) → Bool := fun x => decide (decode code x.1 = .ok x.2) && q_iln x.2.1 x.2.2 && q_icd qm_L_law_ ⟨"WinkBankLaw", "law", "([I)Z"⟩ (some .boolean) x.1 x.2.1
theorem q_allDT {α : Type} {l : List α} {p : α → Bool} (n : Nat) (h : (l.take n).all p = true) (h2 : (l.drop n).all p = true) : l.all p = true := by
  rw [← List.take_append_drop n l, List.all_append, h, h2]
  rfl
theorem q_allDT2 {α : Type} {l : List α} {p : α → Bool} (m n : Nat) (h : ((l.drop m).take n).all p = true) (h2 : (l.drop (m + n)).all p = true) : (l.drop m).all p = true := q_allDT n h (by rw [List.drop_drop]; exact h2)
theorem mr_L_law__0 : ((qm_L_law_.1.drop 0).take 60).all mp_L_law_ = true := by decide +kernel
theorem mr_L_law__60 : ((qm_L_law_.1.drop 60).take 60).all mp_L_law_ = true := by decide +kernel
theorem mr_L_law__120 : ((qm_L_law_.1.drop 120).take 60).all mp_L_law_ = true := by decide +kernel
theorem mr_L_law__180 : ((qm_L_law_.1.drop 180).take 60).all mp_L_law_ = true := by decide +kernel
theorem mr_L_law__240 : ((qm_L_law_.1.drop 240).take 60).all mp_L_law_ = true := by decide +kernel
theorem mr_L_law__300 : ((qm_L_law_.1.drop 300).take 60).all mp_L_law_ = true := by decide +kernel
theorem mr_L_law__360 : ((qm_L_law_.1.drop 360).take 60).all mp_L_law_ = true := by decide +kernel
theorem mr_L_law__420 : ((qm_L_law_.1.drop 420).take 60).all mp_L_law_ = true := by decide +kernel
theorem mr_L_law__480 : ((qm_L_law_.1.drop 480).take 60).all mp_L_law_ = true := by decide +kernel
theorem mr_L_law__540 : ((qm_L_law_.1.drop 540).take 60).all mp_L_law_ = true := by decide +kernel
theorem mr_L_law__600 : ((qm_L_law_.1.drop 600).take 60).all mp_L_law_ = true := by decide +kernel
theorem mr_L_law__660 : ((qm_L_law_.1.drop 660).take 60).all mp_L_law_ = true := by decide +kernel
theorem mr_L_law__720 : ((qm_L_law_.1.drop 720).take 60).all mp_L_law_ = true := by decide +kernel
theorem mr_L_law__780 : ((qm_L_law_.1.drop 780).take 60).all mp_L_law_ = true := by decide +kernel
theorem mr_L_law__840 : ((qm_L_law_.1.drop 840).take 60).all mp_L_law_ = true := by decide +kernel
theorem mr_L_law__900 : ((qm_L_law_.1.drop 900).take 60).all mp_L_law_ = true := by decide +kernel
theorem mr_L_law__960 : ((qm_L_law_.1.drop 960).take 60).all mp_L_law_ = true := by decide +kernel
theorem mr_L_law__1020 : ((qm_L_law_.1.drop 1020).take 60).all mp_L_law_ = true := by decide +kernel
theorem mr_L_law__1080 : ((qm_L_law_.1.drop 1080).take 60).all mp_L_law_ = true := by decide +kernel
theorem mr_L_law__1140 : ((qm_L_law_.1.drop 1140).take 60).all mp_L_law_ = true := by decide +kernel
theorem mr_L_law__1200 : ((qm_L_law_.1.drop 1200).take 60).all mp_L_law_ = true := by decide +kernel
theorem mr_L_law__1260 : ((qm_L_law_.1.drop 1260).take 60).all mp_L_law_ = true := by decide +kernel
theorem mr_L_law__1320 : ((qm_L_law_.1.drop 1320).take 60).all mp_L_law_ = true := by decide +kernel
theorem mr_L_law__1380 : ((qm_L_law_.1.drop 1380).take 60).all mp_L_law_ = true := by decide +kernel
theorem mr_L_law__1440 : ((qm_L_law_.1.drop 1440).take 60).all mp_L_law_ = true := by decide +kernel
theorem mr_L_law__1500 : ((qm_L_law_.1.drop 1500).take 60).all mp_L_law_ = true := by decide +kernel
theorem mr_L_law_ : q_rowsB qm_L_law_ ⟨"WinkBankLaw", "law", "([I)Z"⟩ code (some .boolean) = true := ((q_allDT2 0 60 mr_L_law__0 (q_allDT2 60 60 mr_L_law__60 (q_allDT2 120 60 mr_L_law__120 (q_allDT2 180 60 mr_L_law__180 (q_allDT2 240 60 mr_L_law__240 (q_allDT2 300 60 mr_L_law__300 (q_allDT2 360 60 mr_L_law__360 (q_allDT2 420 60 mr_L_law__420 (q_allDT2 480 60 mr_L_law__480 (q_allDT2 540 60 mr_L_law__540 (q_allDT2 600 60 mr_L_law__600 (q_allDT2 660 60 mr_L_law__660 (q_allDT2 720 60 mr_L_law__720 (q_allDT2 780 60 mr_L_law__780 (q_allDT2 840 60 mr_L_law__840 (q_allDT2 900 60 mr_L_law__900 (q_allDT2 960 60 mr_L_law__960 (q_allDT2 1020 60 mr_L_law__1020 (q_allDT2 1080 60 mr_L_law__1080 (q_allDT2 1140 60 mr_L_law__1140 (q_allDT2 1200 60 mr_L_law__1200 (q_allDT2 1260 60 mr_L_law__1260 (q_allDT2 1320 60 mr_L_law__1320 (q_allDT2 1380 60 mr_L_law__1380 (q_allDT2 1440 60 mr_L_law__1440 (q_allDT2 1500 60 mr_L_law__1500 (by decide +kernel : (qm_L_law_.1.drop 1560).all mp_L_law_ = true))))))))))))))))))))))))))) : (qm_L_law_.1.drop 0).all mp_L_law_ = true)
theorem ml_L_law_ : (qm_L_law_.2.1.map fun x => q_lw "WinkBankLaw" x.1 x.2) = ([156, 158, 1531, 1533, 610, 1737, 760, 1745, 1527, 979, 1824, 1035, 1866, 1139, 1969, 618, 1741, 701, 1973, 1159, 1977, 1178, 1992, 1222, 2000, 1235, 2008, 1250, 2012, 1259, 2016, 1271, 2023, 1279, 2027, 1291, 2035, 1299, 2043, 1318, 2047, 1343, 2055, 1364, 2074, 622, 2078, 1371, 2090, 1378, 2094, 1400, 2110, 1417, 2118, 1454, 2130, 1467, 2134, 1479, 2142, 1486, 2146, 1493, 2150, 1501, 2154, 1520, 2174, 718, 2178, 748, 2190, 752, 2194, 756, 2198] : List Nat).filterMap (fun i => lw_tbl[i]?) := by decide +kernel
theorem mo_L_law_ : (qm_L_law_.2.1.all fun x => q_lkOK "WinkBankLaw" x.1 x.2) = true := by decide +kernel
theorem mt_L_law_ : q_thOK qm_L_law_ ⟨"WinkBankLaw", "law", "([I)Z"⟩ := q_thNo (by decide +kernel)
theorem mr_J6_bitCount_0f7a4 : q_rowsB qm_J6_bitCount_0f7a4 ⟨"java/lang/Integer", "bitCount", "(I)I"⟩ prog_19_method_49_code (Option.some Jvm.ClassFile.FieldType.int) = true := by decide +kernel
theorem ml_J6_bitCount_0f7a4 : (qm_J6_bitCount_0f7a4.2.1.map fun x => q_lw "java/lang/Integer" x.1 x.2) = ([694, 695, 696] : List Nat).filterMap (fun i => lw_tbl[i]?) := by decide +kernel
theorem mo_J6_bitCount_0f7a4 : (qm_J6_bitCount_0f7a4.2.1.all fun x => q_lkOK "java/lang/Integer" x.1 x.2) = true := by decide +kernel
theorem mm_J6_bitCount_0f7a4 : q_mOK 310 qm_J6_bitCount_0f7a4 ⟨"java/lang/Integer", "bitCount", "(I)I"⟩ prog_19_method_49_code (Option.some Jvm.ClassFile.FieldType.int) (.code ⟨"java/lang/Integer", "bitCount", "(I)I"⟩ prog_19_method_49_code 1 (Option.some Jvm.ClassFile.FieldType.int)) := ⟨q_rowsOf mr_J6_bitCount_0f7a4, q_linkOf ml_J6_bitCount_0f7a4, fun x h => List.all_eq_true.mp mo_J6_bitCount_0f7a4 x h, List.mem_filter.mpr ⟨List.mem_of_getElem? (i := 693) (by decide +kernel), by decide +kernel⟩, List.mem_filter.mpr ⟨List.mem_of_getElem? (i := 155) (by decide +kernel), by decide +kernel⟩, by decide +kernel, ⟨by decide +kernel, by decide +kernel⟩, by decide, ⟨rfl, rfl, List.mem_filter.mpr ⟨List.mem_of_getElem? (i := 692) (by decide +kernel), by decide +kernel⟩⟩⟩
theorem mt_J6_bitCount_0f7a4 : q_thOK qm_J6_bitCount_0f7a4 ⟨"java/lang/Integer", "bitCount", "(I)I"⟩ := q_thNo (by decide +kernel)
