def sy_len : MethodName := ⟨"java/lang/String", "length", "()I"⟩
abbrev zb_len : ByteArray := prog_22_method_54_code
abbrev sw_len : Cond := .code sy_len zb_len 1 (some .int)
theorem sm_len : sw_len ∈ q_Ws := List.mem_filter.mpr ⟨List.mem_of_getElem? (i := 872) (by decide +kernel), by decide +kernel⟩
theorem sd_len_0 : decode zb_len 0 = .ok (.aload_n 0, 1) := by decide +kernel
theorem sd_len_1 : decode zb_len 1 = .ok (.getfield 9, 3) := by decide +kernel
theorem sd_len_4 : decode zb_len 4 = .ok (.arraylength, 1) := by decide +kernel
theorem sd_len_5 : decode zb_len 5 = .ok (.aload_n 0, 1) := by decide +kernel
theorem sd_len_6 : decode zb_len 6 = .ok (.invokevirtual 335, 3) := by decide +kernel
theorem sd_len_9 : decode zb_len 9 = .ok (.ishr, 1) := by decide +kernel
theorem sd_len_10 : decode zb_len 10 = .ok (.ireturn, 1) := by decide +kernel
def sy_cod : MethodName := ⟨"java/lang/String", "coder", "()B"⟩
abbrev zb_cod : ByteArray := prog_22_method_152_code
abbrev sw_cod : Cond := .code sy_cod zb_cod 1 (some .byte)
theorem sm_cod : sw_cod ∈ q_Ws := List.mem_filter.mpr ⟨List.mem_of_getElem? (i := 876) (by decide +kernel), by decide +kernel⟩
theorem sd_cod_0 : decode zb_cod 0 = .ok (.getstatic 38, 3) := by decide +kernel
theorem sd_cod_3 : decode zb_cod 3 = .ok (.ifCond .eq 10, 3) := by decide +kernel
theorem sd_cod_6 : decode zb_cod 6 = .ok (.aload_n 0, 1) := by decide +kernel
theorem sd_cod_7 : decode zb_cod 7 = .ok (.getfield 15, 3) := by decide +kernel
theorem sd_cod_10 : decode zb_cod 10 = .ok (.goto 4, 3) := by decide +kernel
theorem sd_cod_13 : decode zb_cod 13 = .ok (.iconst 1, 1) := by decide +kernel
theorem sd_cod_14 : decode zb_cod 14 = .ok (.ireturn, 1) := by decide +kernel
def sy_lat : MethodName := ⟨"java/lang/String", "isLatin1", "()Z"⟩
abbrev zb_lat : ByteArray := prog_22_method_154_code
abbrev sw_lat : Cond := .code sy_lat zb_lat 1 (some .boolean)
theorem sm_lat : sw_lat ∈ q_Ws := List.mem_filter.mpr ⟨List.mem_of_getElem? (i := 886) (by decide +kernel), by decide +kernel⟩
theorem sd_lat_0 : decode zb_lat 0 = .ok (.getstatic 38, 3) := by decide +kernel
theorem sd_lat_3 : decode zb_lat 3 = .ok (.ifCond .eq 14, 3) := by decide +kernel
theorem sd_lat_6 : decode zb_lat 6 = .ok (.aload_n 0, 1) := by decide +kernel
theorem sd_lat_7 : decode zb_lat 7 = .ok (.getfield 15, 3) := by decide +kernel
theorem sd_lat_10 : decode zb_lat 10 = .ok (.ifCond .ne 7, 3) := by decide +kernel
theorem sd_lat_13 : decode zb_lat 13 = .ok (.iconst 1, 1) := by decide +kernel
theorem sd_lat_14 : decode zb_lat 14 = .ok (.goto 4, 3) := by decide +kernel
theorem sd_lat_17 : decode zb_lat 17 = .ok (.iconst 0, 1) := by decide +kernel
theorem sd_lat_18 : decode zb_lat 18 = .ok (.ireturn, 1) := by decide +kernel
def sy_chk : MethodName := ⟨"java/lang/String", "checkIndex", "(II)V"⟩
abbrev zb_chk : ByteArray := prog_22_method_155_code
abbrev sw_chk : Cond := .code sy_chk zb_chk 2 none
theorem sm_chk : sw_chk ∈ q_Ws := List.mem_filter.mpr ⟨List.mem_of_getElem? (i := 892) (by decide +kernel), by decide +kernel⟩
theorem sd_chk_0 : decode zb_chk 0 = .ok (.iload_n 0, 1) := by decide +kernel
theorem sd_chk_1 : decode zb_chk 1 = .ok (.iload_n 1, 1) := by decide +kernel
theorem sd_chk_2 : decode zb_chk 2 = .ok (.getstatic 1053, 3) := by decide +kernel
theorem sd_chk_5 : decode zb_chk 5 = .ok (.invokestatic 1059, 3) := by decide +kernel
theorem sd_chk_8 : decode zb_chk 8 = .ok (.pop, 1) := by decide +kernel
theorem sd_chk_9 : decode zb_chk 9 = .ok (.return_, 1) := by decide +kernel
def sy_at : MethodName := ⟨"java/lang/String", "charAt", "(I)C"⟩
abbrev zb_at : ByteArray := prog_22_method_56_code
abbrev sw_at : Cond := .code sy_at zb_at 2 (some .char)
theorem sm_at : sw_at ∈ q_Ws := List.mem_filter.mpr ⟨List.mem_of_getElem? (i := 882) (by decide +kernel), by decide +kernel⟩
theorem sd_at_0 : decode zb_at 0 = .ok (.aload_n 0, 1) := by decide +kernel
theorem sd_at_1 : decode zb_at 1 = .ok (.invokevirtual 492, 3) := by decide +kernel
theorem sd_at_4 : decode zb_at 4 = .ok (.ifCond .eq 12, 3) := by decide +kernel
theorem sd_at_7 : decode zb_at 7 = .ok (.aload_n 0, 1) := by decide +kernel
theorem sd_at_8 : decode zb_at 8 = .ok (.getfield 9, 3) := by decide +kernel
theorem sd_at_11 : decode zb_at 11 = .ok (.iload_n 1, 1) := by decide +kernel
theorem sd_at_12 : decode zb_at 12 = .ok (.invokestatic 495, 3) := by decide +kernel
theorem sd_at_15 : decode zb_at 15 = .ok (.ireturn, 1) := by decide +kernel
theorem sd_at_16 : decode zb_at 16 = .ok (.aload_n 0, 1) := by decide +kernel
theorem sd_at_17 : decode zb_at 17 = .ok (.getfield 9, 3) := by decide +kernel
theorem sd_at_20 : decode zb_at 20 = .ok (.iload_n 1, 1) := by decide +kernel
theorem sd_at_21 : decode zb_at 21 = .ok (.invokestatic 498, 3) := by decide +kernel
theorem sd_at_24 : decode zb_at 24 = .ok (.ireturn, 1) := by decide +kernel
def sy_l1 : MethodName := ⟨"java/lang/StringLatin1", "charAt", "([BI)C"⟩
abbrev zb_l1 : ByteArray := prog_23_method_2_code
abbrev sw_l1 : Cond := .code sy_l1 zb_l1 2 (some .char)
theorem sm_l1 : sw_l1 ∈ q_Ws := List.mem_filter.mpr ⟨List.mem_of_getElem? (i := 889) (by decide +kernel), by decide +kernel⟩
theorem sd_l1_0 : decode zb_l1 0 = .ok (.iload_n 1, 1) := by decide +kernel
theorem sd_l1_1 : decode zb_l1 1 = .ok (.aload_n 0, 1) := by decide +kernel
theorem sd_l1_2 : decode zb_l1 2 = .ok (.arraylength, 1) := by decide +kernel
theorem sd_l1_3 : decode zb_l1 3 = .ok (.invokestatic 9, 3) := by decide +kernel
theorem sd_l1_6 : decode zb_l1 6 = .ok (.aload_n 0, 1) := by decide +kernel
theorem sd_l1_7 : decode zb_l1 7 = .ok (.iload_n 1, 1) := by decide +kernel
theorem sd_l1_8 : decode zb_l1 8 = .ok (.baload, 1) := by decide +kernel
theorem sd_l1_9 : decode zb_l1 9 = .ok (.sipush 255, 3) := by decide +kernel
theorem sd_l1_12 : decode zb_l1 12 = .ok (.iand, 1) := by decide +kernel
theorem sd_l1_13 : decode zb_l1 13 = .ok (.i2c, 1) := by decide +kernel
theorem sd_l1_14 : decode zb_l1 14 = .ok (.ireturn, 1) := by decide +kernel
def sy_pre : MethodName := ⟨"jdk/internal/util/Preconditions", "checkIndex", "(IILjava/util/function/BiFunction;)I"⟩
abbrev zb_pre : ByteArray := prog_30_method_11_code
abbrev sw_pre : Cond := .code sy_pre zb_pre 3 (some .int)
theorem sm_pre : sw_pre ∈ q_Ws := List.mem_filter.mpr ⟨List.mem_of_getElem? (i := 897) (by decide +kernel), by decide +kernel⟩
theorem sd_pre_0 : decode zb_pre 0 = .ok (.iload_n 0, 1) := by decide +kernel
theorem sd_pre_1 : decode zb_pre 1 = .ok (.ifCond .lt 8, 3) := by decide +kernel
theorem sd_pre_4 : decode zb_pre 4 = .ok (.iload_n 0, 1) := by decide +kernel
theorem sd_pre_5 : decode zb_pre 5 = .ok (.iload_n 1, 1) := by decide +kernel
theorem sd_pre_6 : decode zb_pre 6 = .ok (.if_icmp .lt 10, 3) := by decide +kernel
theorem sd_pre_9 : decode zb_pre 9 = .ok (.aload_n 2, 1) := by decide +kernel
theorem sd_pre_10 : decode zb_pre 10 = .ok (.iload_n 0, 1) := by decide +kernel
theorem sd_pre_11 : decode zb_pre 11 = .ok (.iload_n 1, 1) := by decide +kernel
theorem sd_pre_12 : decode zb_pre 12 = .ok (.invokestatic 95, 3) := by decide +kernel
theorem sd_pre_15 : decode zb_pre 15 = .ok (.athrow, 1) := by decide +kernel
theorem sd_pre_16 : decode zb_pre 16 = .ok (.iload_n 0, 1) := by decide +kernel
theorem sd_pre_17 : decode zb_pre 17 = .ok (.ireturn, 1) := by decide +kernel
theorem sf_val : Cond.fieldLink "java/lang/String" 9 "java/lang/String" "value" "[B" ∈ q_Ws := List.mem_filter.mpr ⟨List.mem_of_getElem? (i := 2220) (by decide +kernel), by decide +kernel⟩
theorem sf_cmp : Cond.fieldLink "java/lang/String" 38 "java/lang/String" "COMPACT_STRINGS" "Z" ∈ q_Ws := List.mem_filter.mpr ⟨List.mem_of_getElem? (i := 877) (by decide +kernel), by decide +kernel⟩
theorem sf_cod : Cond.fieldLink "java/lang/String" 15 "java/lang/String" "coder" "B" ∈ q_Ws := List.mem_filter.mpr ⟨List.mem_of_getElem? (i := 2221) (by decide +kernel), by decide +kernel⟩
theorem sf_sio : Cond.fieldLink "java/lang/String" 1053 "jdk/internal/util/Preconditions" "SIOOBE_FORMATTER" "Ljava/util/function/BiFunction;" ∈ q_Ws := List.mem_filter.mpr ⟨List.mem_of_getElem? (i := 893) (by decide +kernel), by decide +kernel⟩
theorem sl_cod : Cond.methodLink "java/lang/String" 335 sy_cod ∈ q_Ws := List.mem_filter.mpr ⟨List.mem_of_getElem? (i := 873) (by decide +kernel), by decide +kernel⟩
theorem sl_lat : Cond.methodLink "java/lang/String" 492 sy_lat ∈ q_Ws := List.mem_filter.mpr ⟨List.mem_of_getElem? (i := 883) (by decide +kernel), by decide +kernel⟩
theorem sl_l1 : Cond.methodLink "java/lang/String" 495 sy_l1 ∈ q_Ws := List.mem_filter.mpr ⟨List.mem_of_getElem? (i := 887) (by decide +kernel), by decide +kernel⟩
theorem sl_chk : Cond.methodLink "java/lang/StringLatin1" 9 sy_chk ∈ q_Ws := List.mem_filter.mpr ⟨List.mem_of_getElem? (i := 890) (by decide +kernel), by decide +kernel⟩
theorem sl_pre : Cond.methodLink "java/lang/String" 1059 sy_pre ∈ q_Ws := List.mem_filter.mpr ⟨List.mem_of_getElem? (i := 895) (by decide +kernel), by decide +kernel⟩
theorem si_cod : Cond.instanceMethod sy_cod ∈ q_Ws := List.mem_filter.mpr ⟨List.mem_of_getElem? (i := 874) (by decide +kernel), by decide +kernel⟩
theorem ss_cod : Cond.selects "java/lang/String" sy_cod sy_cod ∈ q_Ws := List.mem_filter.mpr ⟨List.mem_of_getElem? (i := 875) (by decide +kernel), by decide +kernel⟩
theorem si_lat : Cond.instanceMethod sy_lat ∈ q_Ws := List.mem_filter.mpr ⟨List.mem_of_getElem? (i := 884) (by decide +kernel), by decide +kernel⟩
theorem ss_lat : Cond.selects "java/lang/String" sy_lat sy_lat ∈ q_Ws := List.mem_filter.mpr ⟨List.mem_of_getElem? (i := 885) (by decide +kernel), by decide +kernel⟩
theorem si_len : Cond.instanceMethod sy_len ∈ q_Ws := List.mem_filter.mpr ⟨List.mem_of_getElem? (i := 870) (by decide +kernel), by decide +kernel⟩
theorem ss_len : Cond.selects "java/lang/String" sy_len sy_len ∈ q_Ws := List.mem_filter.mpr ⟨List.mem_of_getElem? (i := 871) (by decide +kernel), by decide +kernel⟩
theorem si_at : Cond.instanceMethod sy_at ∈ q_Ws := List.mem_filter.mpr ⟨List.mem_of_getElem? (i := 880) (by decide +kernel), by decide +kernel⟩
theorem ss_at : Cond.selects "java/lang/String" sy_at sy_at ∈ q_Ws := List.mem_filter.mpr ⟨List.mem_of_getElem? (i := 881) (by decide +kernel), by decide +kernel⟩
theorem st_l1 : Cond.static sy_l1 ∈ q_Ws := List.mem_filter.mpr ⟨List.mem_of_getElem? (i := 888) (by decide +kernel), by decide +kernel⟩
theorem st_chk : Cond.static sy_chk ∈ q_Ws := List.mem_filter.mpr ⟨List.mem_of_getElem? (i := 891) (by decide +kernel), by decide +kernel⟩
theorem st_pre : Cond.static sy_pre ∈ q_Ws := List.mem_filter.mpr ⟨List.mem_of_getElem? (i := 896) (by decide +kernel), by decide +kernel⟩
theorem sn_S : Cond.initialized "java/lang/String" ∈ q_Ws := List.mem_filter.mpr ⟨List.mem_of_getElem? (i := 149) (by decide +kernel), by decide +kernel⟩
theorem sn_1 : Cond.initialized "java/lang/StringLatin1" ∈ q_Ws := List.mem_filter.mpr ⟨List.mem_of_getElem? (i := 150) (by decide +kernel), by decide +kernel⟩
theorem sn_P : Cond.initialized "jdk/internal/util/Preconditions" ∈ q_Ws := List.mem_filter.mpr ⟨List.mem_of_getElem? (i := 151) (by decide +kernel), by decide +kernel⟩
/-! String.length and String.charAt on the texts that the code names. -/
def xs_Q (v : Option Value) : Array Value → State → Outcome → State → Prop := fun _ st o t => o = .returned v ∧ t.heap = st.heap
theorem xs_all : ∀ i, i < 19 → ∃ t, q_strs[i]? = some t ∧ q_sln.getD i 0 = t.length ∧ t.length < 100 ∧ Int32.ofNat t.length >>> ((0 : Int32) &&& 31) = Int32.ofNat t.length ∧ ∀ j, j < t.length → (((Int32.toUInt32 ((q_sby.getD i []).getD j 0 &&& 255)) % 65536).toInt32 = Int32.ofNat (t.getD j 0) ∧ narrow .char (.int (Int32.ofNat (t.getD j 0))) = .int (Int32.ofNat (t.getD j 0))) := by
  intro i hi
  have h : ∀ i, i < 19 → (q_strs[i]?).isSome = true := by decide
  obtain ⟨t, ht⟩ := Option.isSome_iff_exists.mp (h i hi)
  refine ⟨t, ht, ?_⟩
  have h2 : ∀ i, i < 19 → (match q_strs[i]? with
    | some t => decide (q_sln.getD i 0 = t.length) && decide (t.length < 100) && decide (Int32.ofNat t.length >>> ((0 : Int32) &&& 31) = Int32.ofNat t.length) && (List.range t.length).all (fun j => decide (((Int32.toUInt32 ((q_sby.getD i []).getD j 0 &&& 255)) % 65536).toInt32 = Int32.ofNat (t.getD j 0)) && decide (narrow .char (.int (Int32.ofNat (t.getD j 0))) = .int (Int32.ofNat (t.getD j 0))))
    | none => false) = true := by decide +kernel
  have h3 := h2 i hi
  rw [ht] at h3
  simp only [Bool.and_eq_true, decide_eq_true_eq, List.all_eq_true, List.mem_range] at h3
  exact ⟨h3.1.1.1, h3.1.1.2, h3.1.2, fun j hj => h3.2 j hj⟩
section XSTR
variable {X : qX} {l : Launch} {p : Program} {e : Env} {R : Room} {s : State} {m : MethodId} {args : Array Value} {below : List Frame} {meth : Method} {c : Code} {H : Heap} {locs : List Loc} {cells slots : Nat} {Q : State → Prop}
theorem xs_call {g : JFrame} {rest : List Value} {Qa : State → Outcome → State → Prop} (hr : va_Run p l e R s m args below meth c H locs cells slots 0 0 g rest Qa (fun _ => False)) {v : Option Value} (hQ : ∀ st o t, Qa st o t → o = .returned v ∧ t.heap = st.heap) (kk : W p l e R s m args below meth c H locs cells slots Q { g with pc := g.pc + 3, stack := v.toList ++ rest }) : W p l e R s m args below meth c H locs cells slots Q g := by
  intro T hT X
  obtain ⟨v0, st₀, t, T', L, e0, X', hL, e1, e2, hq, st⟩ := hr T hT X
  obtain ⟨h1, h2⟩ := hQ _ _ _ hq
  cases h1
  have hLn : L = [] := by
    cases L with
    | nil => rfl
    | cons a b => exact absurd (hL a List.mem_cons_self) (fun f => f)
  subst hLn
  rw [List.append_nil, Nat.add_zero, Nat.add_zero] at X'
  obtain ⟨t2, a1, b1⟩ := kk T' (by rw [e1, h2, e0]) X'
  exact ⟨t2, st t2 a1, b1⟩
end XSTR
def xs_G (X : qX) (av : List Value) (B : State → Heap → Prop) : Array Value → State → Prop := va_Pc av (fun U => x_G X U U.heap ∧ X.1 ≤ U.heap.size ∧ B U U.heap)
theorem xs_bl {X : qX} {av : List Value} {B : State → Heap → Prop} (hB : ∀ (U : State) (g : JFrame) (mk : MethodId) (a : Array Value), B U U.heap → B (U.calling g mk a) (U.calling g mk a).heap) : FrameBlind (xs_G X av B) := by
  intro a U g mk hP
  obtain ⟨h1, h2, h3, h4⟩ := hP
  exact ⟨h1, x_G.moved (U := U.calling g mk a) h2 (State.WarmedH.refl U) h3 (fun q _ => rfl), h3, hB U g mk a h4⟩
theorem xs_good {cw : Cond} (h : cw ∈ q_Ws) : GoodIn q_Ws (cw :: q_Ws) := q_good fun w hw => by
  rcases List.mem_cons.mp hw with rfl | hw
  · exact h
  · exact hw
theorem xs_gV {own : String} {i : Nat} {C : String} {y : MethodName} {cw : Cond} (h1 : Cond.methodLink own i y ∈ q_Ws) (h2 : Cond.instanceMethod y ∈ q_Ws) (h3 : Cond.selects C y y ∈ q_Ws) (h4 : Cond.initialized C ∈ q_Ws) (h5 : cw ∈ q_Ws) : GoodIn q_Ws (wsV own i C y (cw :: q_Ws)) := q_good fun w hw => by
  rcases List.mem_append.mp hw with hw | hw
  · rcases List.mem_cons.mp hw with rfl | hw
    · exact h1
    · rcases List.mem_cons.mp hw with rfl | hw
      · exact h2
      · rcases List.mem_cons.mp hw with rfl | hw
        · exact h3
        · rcases List.mem_cons.mp hw with rfl | hw
          · exact h4
          · cases hw
  · rcases List.mem_cons.mp hw with rfl | hw
    · exact h5
    · exact hw
theorem xs_gS {own : String} {i : Nat} {y : MethodName} {cw : Cond} (h1 : Cond.methodLink own i y ∈ q_Ws) (h2 : Cond.static y ∈ q_Ws) (h4 : Cond.initialized y.cls ∈ q_Ws) (h5 : cw ∈ q_Ws) : GoodIn q_Ws (va_wsS own i y (cw :: q_Ws)) := q_good fun w hw => by
  rcases List.mem_append.mp hw with hw | hw
  · rcases List.mem_cons.mp hw with rfl | hw
    · exact h1
    · rcases List.mem_cons.mp hw with rfl | hw
      · exact h2
      · rcases List.mem_cons.mp hw with rfl | hw
        · exact h4
        · cases hw
  · rcases List.mem_cons.mp hw with rfl | hw
    · exact h5
    · exact hw
abbrev xs_S (X : qX) (i : Nat) : Array Value → State → Prop := xs_G X [.ref (X.2.2.2.1 i)] (fun _ _ => True)
set_option maxHeartbeats 4000000 in
theorem cs_cod (X : qX) (l : Launch) (i : Nat) (hi : i < 19) : Met l sy_cod (sw_cod :: q_Ws) (k2_rm 1 20) (xs_S X i) (xs_Q (some (.int 0))) 0 0 (fun _ => False) := by
  refine Met.ofW (cc := zb_cod) (maxL := 1) (ret := some .byte) (by decide) rfl ?_
  intro p e s m args below meth c s₁ B hml hv
  obtain ⟨rfl, hG, hsz, -⟩ := hv
  have hx := B.exec
  have hb := B.bytes
  have hr := B.returns
  have hts := atoms_spec (ws := sw_cod :: q_Ws) B.pre
  have hts : ∀ w ∈ q_Ws, w.before _ s = true := fun w hw => hts w (List.mem_cons_of_mem _ hw)
  have hown : s.vm.findClass "java/lang/String" = some m.cls := findClass_of_methodNamed B.named
  have hlocks := B.notSynchronized
  have hS : va_S (x_A X) s.heap s.heap [] := va_S.rf
  obtain ⟨-, -, -, -, -, -, -, -, -, -, -, -, hcmp, -, adV, hstr⟩ := hG
  obtain ⟨s1, s2, s3, s4⟩ := hstr i hi
  have hl := lv_entry [.ref (X.2.2.2.1 i)] (n := 1) (Nat.le_refl 1)
  rw [lg_entry_eq]
  generalize (lg_sl ([.ref (X.2.2.2.1 i)]) ++ List.replicate (1 - (lg_sl ([.ref (X.2.2.2.1 i)])).length) Slot.unset).toArray = ls at hl ⊢
  refine va_gets hx hb hcmp hS hown (hts _ sf_cmp) (fun x hx => hx) sd_cod_0 ?_
  refine lv_if_eq (tgt := 13) hx hb sd_cod_3 (by decide) (fun h => absurd h (by decide)) (fun _ => ?_)
  refine lv_aload_n hx hb sd_cod_6 rfl (lv_at hl 0 rfl) ?_
  refine vk_getf hx hb s2 hS hown (hts _ sf_cod) (fun x hx => hx) sd_cod_7 ?_
  refine lv_goto (tgt := 14) hx hb sd_cod_10 (by decide) ?_
  exact W.zret hx hb hr rfl (fun t ht _ => ⟨rfl, ht⟩) (fun q hq => nomatch hq) sd_cod_14 hlocks
set_option maxHeartbeats 4000000 in
theorem cs_lat (X : qX) (l : Launch) (i : Nat) (hi : i < 19) : Met l sy_lat (sw_lat :: q_Ws) (k2_rm 1 20) (xs_S X i) (xs_Q (some (.int 1))) 0 0 (fun _ => False) := by
  refine Met.ofW (cc := zb_lat) (maxL := 1) (ret := some .boolean) (by decide) rfl ?_
  intro p e s m args below meth c s₁ B hml hv
  obtain ⟨rfl, hG, hsz, -⟩ := hv
  have hx := B.exec
  have hb := B.bytes
  have hr := B.returns
  have hts := atoms_spec (ws := sw_lat :: q_Ws) B.pre
  have hts : ∀ w ∈ q_Ws, w.before _ s = true := fun w hw => hts w (List.mem_cons_of_mem _ hw)
  have hown : s.vm.findClass "java/lang/String" = some m.cls := findClass_of_methodNamed B.named
  have hlocks := B.notSynchronized
  have hS : va_S (x_A X) s.heap s.heap [] := va_S.rf
  obtain ⟨-, -, -, -, -, -, -, -, -, -, -, -, hcmp, -, adV, hstr⟩ := hG
  obtain ⟨s1, s2, s3, s4⟩ := hstr i hi
  have hl := lv_entry [.ref (X.2.2.2.1 i)] (n := 1) (Nat.le_refl 1)
  rw [lg_entry_eq]
  generalize (lg_sl ([.ref (X.2.2.2.1 i)]) ++ List.replicate (1 - (lg_sl ([.ref (X.2.2.2.1 i)])).length) Slot.unset).toArray = ls at hl ⊢
  refine va_gets hx hb hcmp hS hown (hts _ sf_cmp) (fun x hx => hx) sd_lat_0 ?_
  refine lv_if_eq (tgt := 17) hx hb sd_lat_3 (by decide) (fun h => absurd h (by decide)) (fun _ => ?_)
  refine lv_aload_n hx hb sd_lat_6 rfl (lv_at hl 0 rfl) ?_
  refine vk_getf hx hb s2 hS hown (hts _ sf_cod) (fun x hx => hx) sd_lat_7 ?_
  refine lv_if_ne (tgt := 17) hx hb sd_lat_10 (by decide) (fun h => absurd rfl h) (fun _ => ?_)
  refine lv_iconst (v := 1) hx hb sd_lat_13 (by decide) ?_
  refine lv_goto (tgt := 18) hx hb sd_lat_14 (by decide) ?_
  exact W.zret hx hb hr rfl (fun t ht _ => ⟨rfl, ht⟩) (fun q hq => nomatch hq) sd_lat_18 hlocks
set_option maxHeartbeats 4000000 in
theorem cs_pre (l : Launch) (x n : Int32) (v : Value) (h0 : ¬ x < 0) (hn : x < n) (hv1 : v = .null ∨ ∃ a, v = .ref a) : Met l sy_pre (sw_pre :: q_Ws) (k2_rm 1 20) (va_Pc [.int x, .int n, v] (fun _ => True)) (xs_Q (some (.int x))) 0 0 (fun _ => False) := by
  refine Met.ofW (cc := zb_pre) (maxL := 3) (ret := some .int) (by decide) rfl ?_
  intro p e s m args below meth c s₁ B hml hv
  obtain ⟨rfl, -⟩ := hv
  have hx := B.exec
  have hb := B.bytes
  have hr := B.returns
  have hlocks := B.notSynchronized
  have hlen : (lg_sl [.int x, .int n, v]).length = 3 := by rcases hv1 with rfl | ⟨a, rfl⟩ <;> rfl
  have hl := lv_entry [.int x, .int n, v] (n := 3) (by rw [hlen]; exact Nat.le_refl 3)
  rw [lg_entry_eq]
  generalize (lg_sl ([.int x, .int n, v]) ++ List.replicate (3 - (lg_sl ([.int x, .int n, v])).length) Slot.unset).toArray = ls at hl ⊢
  refine lv_iload_n hx hb sd_pre_0 rfl (lv_at hl 0 rfl) ?_
  refine lv_if_lt (tgt := 9) hx hb sd_pre_1 (by decide) (fun h => absurd h h0) (fun _ => ?_)
  refine lv_iload_n hx hb sd_pre_4 rfl (lv_at hl 0 rfl) ?_
  refine lv_iload_n hx hb sd_pre_5 rfl (lv_at hl 1 rfl) ?_
  refine lv_icmp_lt (tgt := 16) hx hb sd_pre_6 (by decide) (fun _ => ?_) (fun h => absurd hn h)
  refine lv_iload_n hx hb sd_pre_16 rfl (lv_at hl 0 rfl) ?_
  exact W.zret hx hb hr rfl (fun t ht _ => ⟨rfl, ht⟩) (fun q hq => nomatch hq) sd_pre_17 hlocks
set_option maxHeartbeats 4000000 in
theorem cs_chk (X : qX) (l : Launch) (x n : Int32) (h0 : ¬ x < 0) (hn : x < n) : Met l sy_chk (sw_chk :: q_Ws) (k2_rm 3 80) (xs_G X [.int x, .int n] (fun _ _ => True)) (xs_Q none) 0 0 (fun _ => False) := by
  refine Met.ofW (cc := zb_chk) (maxL := 2) (ret := none) (by decide) rfl ?_
  intro p e s m args below meth c s₁ B hml hv
  obtain ⟨rfl, hG, hsz, -⟩ := hv
  have hx := B.exec
  have hb := B.bytes
  have hr := B.returns
  have hts := atoms_spec (ws := sw_chk :: q_Ws) B.pre
  have hts : ∀ w ∈ q_Ws, w.before _ s = true := fun w hw => hts w (List.mem_cons_of_mem _ hw)
  have hown : s.vm.findClass "java/lang/String" = some m.cls := findClass_of_methodNamed B.named
  have hlocks := B.notSynchronized
  have hS : va_S (x_A X) s.heap s.heap [] := va_S.rf
  obtain ⟨-, -, -, -, -, -, -, -, -, -, -, -, -, hsio, -⟩ := hG
  have hl := lv_entry [.int x, .int n] (n := 2) (Nat.le_refl 2)
  rw [lg_entry_eq]
  generalize (lg_sl ([.int x, .int n]) ++ List.replicate (2 - (lg_sl ([.int x, .int n])).length) Slot.unset).toArray = ls at hl ⊢
  refine lv_iload_n hx hb sd_chk_0 rfl (lv_at hl 0 rfl) ?_
  refine lv_iload_n hx hb sd_chk_1 rfl (lv_at hl 1 rfl) ?_
  have go : ∀ v : Value, va_Z "jdk/internal/util/Preconditions" "SIOOBE_FORMATTER" "Ljava/util/function/BiFunction;" v (x_A X) s s.heap → (v = .null ∨ ∃ a, v = .ref a) → W p l e (headSpec (sw_chk :: q_Ws) (k2_rm 3 80)).room s m [Value.int x, Value.int n].toArray below meth c s.heap [] 0 0 (MQ below (xs_Q none) [Value.int x, Value.int n].toArray s 0 0 (fun _ => False)) (F0 m 2 ls [.int n, .int x]) := by
    intro v hZ hv1
    refine va_gets hx hb hZ hS hown (hts _ sf_sio) (fun x hx => hx) sd_chk_2 ?_
    refine xs_call (v := some (.int x)) (va_runS (As := [.int x, .int n, v]) (rest := []) (Ts := q_Ws) ⟨hx, hb, hml, hown, hts⟩ (cs_pre l x n v h0 hn hv1) (va_cwS 3 hts (xs_gS sl_pre st_pre sn_P sm_pre) rfl rfl rfl (by decide +kernel) ⟨by decide, by decide⟩) ⟨fun a U g mk q => q, fun U hU hW => ⟨rfl, trivial⟩⟩ rfl rfl hl.1 rfl (lv_room (Nat.le_of_ble_eq_true rfl)) sd_chk_5 ⟨Nat.zero_le _, Nat.zero_le _⟩) (fun st o t h => h) ?_
    refine lv_pop hx hb sd_chk_8 rfl ?_
    exact W.vret hx hb hr (fun t ht _ => ⟨rfl, ht⟩) (fun q hq => nomatch hq) sd_chk_9 hlocks
  rcases hsio with h | ⟨t, h⟩
  · exact go _ h (Or.inl rfl)
  · exact go _ h (Or.inr ⟨_, rfl⟩)
set_option maxHeartbeats 4000000 in
theorem cs_l1 (X : qX) (l : Launch) (a n : Nat) (f : Nat → Int32) (x : Int32) (hn : n < 2 ^ 31) (hin : vp_in x n) (r : Int32) (hr0 : ((Int32.toUInt32 (f x.toNatClampNeg &&& 255)) % 65536).toInt32 = r) (hr1 : narrow .char (.int r) = .int r) :
    Met l sy_l1 (sw_l1 :: q_Ws) (k2_rm 5 140) (xs_G X [.ref a, .int x] (fun U H => va_T .byte a n (fun j => .int (f j)) (x_A X) U H)) (xs_Q (some (.int r))) 0 0 (fun _ => False) := by
  refine Met.ofW (cc := zb_l1) (maxL := 2) (ret := some .char) (by decide) rfl ?_
  intro p e s m args below meth c s₁ B hml hv
  obtain ⟨rfl, hG, hsz, hT⟩ := hv
  have hx := B.exec
  have hb := B.bytes
  have hr := B.returns
  have hts := atoms_spec (ws := sw_l1 :: q_Ws) B.pre
  have hts : ∀ w ∈ q_Ws, w.before _ s = true := fun w hw => hts w (List.mem_cons_of_mem _ hw)
  have hown : s.vm.findClass "java/lang/StringLatin1" = some m.cls := findClass_of_methodNamed B.named
  have hlocks := B.notSynchronized
  have hS : va_S (x_A X) s.heap s.heap [] := va_S.rf
  have hl := lv_entry [.ref a, .int x] (n := 2) (Nat.le_refl 2)
  rw [lg_entry_eq]
  generalize (lg_sl ([.ref a, .int x]) ++ List.replicate (2 - (lg_sl ([.ref a, .int x])).length) Slot.unset).toArray = ls at hl ⊢
  obtain ⟨j, hj, rfl⟩ := vp_in_of hin hn
  refine lv_iload_n hx hb sd_l1_0 rfl (lv_at hl 1 rfl) ?_
  refine lv_aload_n hx hb sd_l1_1 rfl (lv_at hl 0 rfl) ?_
  refine va_tlen hx hb hT hS rfl sd_l1_2 ?_
  refine xs_call (v := none) (va_runS (As := [.int (nI j), .int (Int32.ofNat n)]) (rest := []) (Ts := q_Ws) ⟨hx, hb, hml, hown, hts⟩ (cs_chk X l (nI j) (Int32.ofNat n) (nI_pos (by omega)) (nI_lt hj hn)) (va_cwS 2 hts (xs_gS sl_chk st_chk sn_S sm_chk) rfl rfl rfl (by decide +kernel) ⟨by decide, by decide⟩) ⟨xs_bl (fun _ _ _ _ h => h), fun U hU hW => ⟨rfl, x_G.moved hG hW hsz (fun q _ => by rw [hU]), by rw [hU]; exact hsz, trivial⟩⟩ rfl rfl hl.1 rfl (lv_room (Nat.le_of_ble_eq_true rfl)) sd_l1_3 ⟨Nat.zero_le _, Nat.zero_le _⟩) (fun st o t h => h) ?_
  refine lv_aload_n hx hb sd_l1_6 rfl (lv_at hl 0 rfl) ?_
  refine lv_iload_n hx hb sd_l1_7 rfl (lv_at hl 1 rfl) ?_
  refine va_tb hx hb hT hS hin rfl sd_l1_8 ?_
  refine lv_sipush (v := 255) hx hb sd_l1_9 (by decide) ?_
  refine lv_iand hx hb sd_l1_12 ?_
  refine lv_i2c hx hb sd_l1_13 hr0 ?_
  exact W.zret hx hb hr hr1 (fun t ht _ => ⟨rfl, ht⟩) (fun q hq => nomatch hq) sd_l1_14 hlocks
set_option maxHeartbeats 4000000 in
theorem cs_len (X : qX) (l : Launch) (i : Nat) (hi : i < 19) (t : List Nat) (ht : q_strs[i]? = some t) : Met l sy_len (sw_len :: q_Ws) (k2_rm 3 80) (xs_S X i) (xs_Q (some (.int (Int32.ofNat t.length)))) 0 0 (fun _ => False) := by
  refine Met.ofW (cc := zb_len) (maxL := 1) (ret := some .int) (by decide) rfl ?_
  intro p e s m args below meth c s₁ B hml hv
  obtain ⟨rfl, hG, hsz, -⟩ := hv
  have hx := B.exec
  have hb := B.bytes
  have hr := B.returns
  have hts := atoms_spec (ws := sw_len :: q_Ws) B.pre
  have hts : ∀ w ∈ q_Ws, w.before _ s = true := fun w hw => hts w (List.mem_cons_of_mem _ hw)
  have hown : s.vm.findClass "java/lang/String" = some m.cls := findClass_of_methodNamed B.named
  have hlocks := B.notSynchronized
  have hS : va_S (x_A X) s.heap s.heap [] := va_S.rf
  obtain ⟨-, -, -, -, -, -, -, -, -, -, -, -, -, -, adV, hstr⟩ := id hG
  obtain ⟨s1, s2, s3, s4⟩ := hstr i hi
  obtain ⟨t', ht', hlen, hl100, hsh, -⟩ := xs_all i hi
  cases Option.some.inj (ht'.symm.trans ht)
  rw [hlen] at s4
  have hl := lv_entry [.ref (X.2.2.2.1 i)] (n := 1) (Nat.le_refl 1)
  rw [lg_entry_eq]
  generalize (lg_sl ([.ref (X.2.2.2.1 i)]) ++ List.replicate (1 - (lg_sl ([.ref (X.2.2.2.1 i)])).length) Slot.unset).toArray = ls at hl ⊢
  refine lv_aload_n hx hb sd_len_0 rfl (lv_at hl 0 rfl) ?_
  refine vk_getf hx hb s3 hS hown (hts _ sf_val) (fun x hx => hx) sd_len_1 ?_
  refine va_tlen hx hb s4 hS rfl sd_len_4 ?_
  refine lv_aload_n hx hb sd_len_5 rfl (lv_at hl 0 rfl) ?_
  refine xs_call (v := some (.int 0)) (va_runV (As := []) (rest := [.int (Int32.ofNat t.length)]) (C := "java/lang/String") (Ts := q_Ws) ⟨hx, hb, hml, hown, hts⟩ (cs_cod X l i hi) (cwV 0 hts (xs_gV sl_cod si_cod ss_cod sn_S sm_cod) rfl rfl rfl (by decide +kernel) ⟨by decide, by decide⟩) ⟨xs_bl (fun _ _ _ _ h => h), xk_recv hstr hi hS, fun U hU hW => ⟨rfl, x_G.moved hG hW hsz (fun q _ => by rw [hU]), by rw [hU]; exact hsz, trivial⟩⟩ rfl rfl hl.1 rfl (lv_room (Nat.le_of_ble_eq_true rfl)) sd_len_6 ⟨Nat.zero_le _, Nat.zero_le _⟩) (fun st o t h => h) ?_
  refine lv_ishr hx hb sd_len_9 ?_
  rw [hsh]
  exact W.zret hx hb hr rfl (fun t ht _ => ⟨rfl, ht⟩) (fun q hq => nomatch hq) sd_len_10 hlocks
set_option maxHeartbeats 4000000 in
theorem cs_at (X : qX) (l : Launch) (i : Nat) (hi : i < 19) (t : List Nat) (ht : q_strs[i]? = some t) (x : Int32) (hin : vp_in x t.length) : Met l sy_at (sw_at :: q_Ws) (k2_rm 8 220) (xs_G X [.ref (X.2.2.2.1 i), .int x] (fun _ _ => True)) (xs_Q (some (.int (Int32.ofNat (t.getD x.toNatClampNeg 0))))) 0 0 (fun _ => False) := by
  refine Met.ofW (cc := zb_at) (maxL := 2) (ret := some .char) (by decide) rfl ?_
  intro p e s m args below meth c s₁ B hml hv
  obtain ⟨rfl, hG, hsz, -⟩ := hv
  have hx := B.exec
  have hb := B.bytes
  have hr := B.returns
  have hts := atoms_spec (ws := sw_at :: q_Ws) B.pre
  have hts : ∀ w ∈ q_Ws, w.before _ s = true := fun w hw => hts w (List.mem_cons_of_mem _ hw)
  have hown : s.vm.findClass "java/lang/String" = some m.cls := findClass_of_methodNamed B.named
  have hlocks := B.notSynchronized
  have hS : va_S (x_A X) s.heap s.heap [] := va_S.rf
  obtain ⟨-, -, -, -, -, -, -, -, -, -, -, -, -, -, adV, hstr⟩ := id hG
  obtain ⟨s1, s2, s3, s4⟩ := hstr i hi
  obtain ⟨t', ht', hlen, hl100, -, hch⟩ := xs_all i hi
  cases Option.some.inj (ht'.symm.trans ht)
  rw [hlen] at s4
  have hlt : x.toNatClampNeg < t.length := Nat.not_le.mp fun q => hin (Or.inr q)
  obtain ⟨hc1, hc2⟩ := hch _ hlt
  have hl := lv_entry [.ref (X.2.2.2.1 i), .int x] (n := 2) (Nat.le_refl 2)
  rw [lg_entry_eq]
  generalize (lg_sl ([.ref (X.2.2.2.1 i), .int x]) ++ List.replicate (2 - (lg_sl ([.ref (X.2.2.2.1 i), .int x])).length) Slot.unset).toArray = ls at hl ⊢
  refine lv_aload_n hx hb sd_at_0 rfl (lv_at hl 0 rfl) ?_
  refine xs_call (v := some (.int 1)) (va_runV (As := []) (rest := []) (C := "java/lang/String") (Ts := q_Ws) ⟨hx, hb, hml, hown, hts⟩ (cs_lat X l i hi) (cwV 0 hts (xs_gV sl_lat si_lat ss_lat sn_S sm_lat) rfl rfl rfl (by decide +kernel) ⟨by decide, by decide⟩) ⟨xs_bl (fun _ _ _ _ h => h), xk_recv hstr hi hS, fun U hU hW => ⟨rfl, x_G.moved hG hW hsz (fun q _ => by rw [hU]), by rw [hU]; exact hsz, trivial⟩⟩ rfl rfl hl.1 rfl (lv_room (Nat.le_of_ble_eq_true rfl)) sd_at_1 ⟨Nat.zero_le _, Nat.zero_le _⟩) (fun st o t h => h) ?_
  refine lv_if_eq (tgt := 16) hx hb sd_at_4 (by show ((4 : Nat) : Int) + 12 = ((16 : Nat) : Int); decide) (fun h => absurd h (by decide)) (fun _ => ?_)
  refine lv_aload_n hx hb sd_at_7 rfl (lv_at hl 0 rfl) ?_
  refine vk_getf hx hb s3 hS hown (hts _ sf_val) (fun x hx => hx) sd_at_8 ?_
  refine lv_iload_n hx hb sd_at_11 rfl (lv_at hl 1 rfl) ?_
  refine xs_call (v := some (.int (Int32.ofNat (t.getD x.toNatClampNeg 0)))) (va_runS (As := [.ref (adV i), .int x]) (rest := []) (Ts := q_Ws) ⟨hx, hb, hml, hown, hts⟩ (cs_l1 X l (adV i) t.length (fun j => (q_sby.getD i []).getD j 0) x (by omega) hin _ hc1 hc2) (va_cwS 2 hts (xs_gS sl_l1 st_l1 sn_1 sm_l1) rfl rfl rfl (by decide +kernel) ⟨by decide, by decide⟩) ⟨xs_bl (fun U g mk a h => va_T.moved (U := U.calling g mk a) (Vm.Alike.refl U.vm) h), fun U hU hW => ⟨rfl, x_G.moved hG hW hsz (fun q _ => by rw [hU]), by rw [hU]; exact hsz, by rw [hU]; exact va_T.moved hW.alike s4⟩⟩ rfl rfl hl.1 rfl (lv_room (Nat.le_of_ble_eq_true rfl)) sd_at_12 ⟨Nat.zero_le _, Nat.zero_le _⟩) (fun st o t h => h) ?_
  exact W.zret hx hb hr hc2 (fun t ht _ => ⟨rfl, ht⟩) (fun q hq => nomatch hq) sd_at_15 hlocks
theorem xs_i {i : UInt32} {t : List Nat} (h : q_strs[i.toNat]? = some t) : i.toNat < 19 := (List.getElem?_eq_some_iff.mp h).1
theorem xs_SL (X : qX) (l : Launch) : x_SL X l := by
  intro M y bytes ret p e R s m args below meth c d h0 h' pc L h H locs ls cells slots Q rest j a1 a2 a3 i t E hI hd hk ht h8 hc hs kk
  obtain ⟨hx, hb, hml, hown, hts, hlocks, hr, hG, hR, hC, htr, hsz, hrow, hln, hnm, hlo, hhd, hth⟩ := E
  obtain ⟨hW, hS, hL, hq⟩ := hI
  have hlw : Cond.methodLink y.cls j sy_len ∈ q_Ws := List.mem_filter.mpr ⟨hln _ (q_look hk), rfl⟩
  obtain ⟨-, -, -, -, -, -, -, -, -, -, -, -, -, -, adV, hstr⟩ := id hG
  exact xs_call (v := some (.int (Int32.ofNat t.length))) (va_runV (As := []) (rest := rest) (C := "java/lang/String") (Ts := q_Ws) ⟨hx, hb, hml, hown, hts⟩ (cs_len X l i.toNat (xs_i ht) t ht) (cwV 0 hts (xs_gV hlw si_len ss_len sn_S sm_len) rfl rfl rfl (by decide +kernel) ⟨by show 3 + 1 ≤ R.frames; omega, by show 8 + (1 + 11) + 80 ≤ R.locals; omega⟩) ⟨xs_bl (fun _ _ _ _ h => h), xk_recv hstr (xs_i ht) hS, fun U hU hw => ⟨rfl, x_G.moved hG hw hsz (fun q hq => by rw [hU]; exact hS.2.1 q (Nat.lt_of_lt_of_le hq hsz) (Nat.not_le.mpr hq)), by rw [hU]; exact Nat.le_trans hsz hS.1, trivial⟩⟩ rfl rfl hL.1 rfl (lv_room h8) hd ⟨by omega, by omega⟩) (fun st o t h => h) kk
theorem xs_SC (X : qX) (l : Launch) : x_SC X l := by
  intro M y bytes ret p e R s m args below meth c d h0 h' pc L h H locs ls cells slots Q rest j a1 a2 a3 i t z E hI hd hk ht hin h8 hc hs kk
  obtain ⟨hx, hb, hml, hown, hts, hlocks, hr, hG, hR, hC, htr, hsz, hrow, hln, hnm, hlo, hhd, hth⟩ := E
  obtain ⟨hW, hS, hL, hq⟩ := hI
  have hlw : Cond.methodLink y.cls j sy_at ∈ q_Ws := List.mem_filter.mpr ⟨hln _ (q_look hk), rfl⟩
  obtain ⟨-, -, -, -, -, -, -, -, -, -, -, -, -, -, adV, hstr⟩ := id hG
  exact xs_call (v := some (.int (Int32.ofNat (t.getD z.toNatClampNeg 0)))) (va_runV (As := [.int z]) (rest := rest) (C := "java/lang/String") (Ts := q_Ws) ⟨hx, hb, hml, hown, hts⟩ (cs_at X l i.toNat (xs_i ht) t ht z (x_in hin)) (cwV 1 hts (xs_gV hlw si_at ss_at sn_S sm_at) rfl rfl rfl (by decide +kernel) ⟨by show 8 + 1 ≤ R.frames; omega, by show 8 + (2 + 11) + 220 ≤ R.locals; omega⟩) ⟨xs_bl (fun _ _ _ _ h => h), xk_recv hstr (xs_i ht) hS, fun U hU hw => ⟨rfl, x_G.moved hG hw hsz (fun q hq => by rw [hU]; exact hS.2.1 q (Nat.lt_of_lt_of_le hq hsz) (Nat.not_le.mpr hq)), by rw [hU]; exact Nat.le_trans hsz hS.1, trivial⟩⟩ rfl rfl hL.1 rfl (lv_room h8) hd ⟨by omega, by omega⟩) (fun st o t h => h) kk
