theorem qi_0 : u_ws RX0 TX0 13 = [466, 468, 470, 472, 474, 476, 478, 480, 482, 484, 486, 488, 490].filterMap (fun i => lw_tbl[i]?) := by decide +kernel
theorem qg_0 : (u_ws RX0 TX0 13).all goodWord = true := by decide +kernel
theorem qn_0 : Cond.instantiable RX0 13 ∈ q_Ws ∧ Cond.initialized RX0 ∈ q_Ws := ⟨List.mem_filter.mpr ⟨List.mem_of_getElem? (i := 443) (by decide +kernel), by decide +kernel⟩, List.mem_filter.mpr ⟨List.mem_of_getElem? (i := 140) (by decide +kernel), by decide +kernel⟩⟩
theorem qo_0 : ∀ k, k < 13 → (TX0 k).1 = RX0 := by decide +kernel
theorem qd_0 : ∀ k, k < 13 → defaultValue (tyX0 k) = vp_V ([.null, .null, .null, .null, .null, .null, .null, .null, .int 0, .int 0, .int 0, .int 0, .int 0] : List Value) k := by decide +kernel
theorem qi_1 : u_ws RX1 TX1 9 = [341, 343, 345, 347, 349, 351, 353, 355, 357].filterMap (fun i => lw_tbl[i]?) := by decide +kernel
theorem qg_1 : (u_ws RX1 TX1 9).all goodWord = true := by decide +kernel
theorem qn_1 : Cond.instantiable RX1 9 ∈ q_Ws ∧ Cond.initialized RX1 ∈ q_Ws := ⟨List.mem_filter.mpr ⟨List.mem_of_getElem? (i := 316) (by decide +kernel), by decide +kernel⟩, List.mem_filter.mpr ⟨List.mem_of_getElem? (i := 137) (by decide +kernel), by decide +kernel⟩⟩
theorem qo_1 : ∀ k, k < 9 → (TX1 k).1 = RX1 := by decide +kernel
theorem qd_1 : ∀ k, k < 9 → defaultValue (tyX1 k) = vp_V ([.null, .null, .null, .null, .null, .null, .null, .int 0, .int 0] : List Value) k := by decide +kernel
theorem qi_2 : u_ws RX2 TX2 11 = [386, 388, 390, 392, 394, 396, 398, 400, 402, 404, 406].filterMap (fun i => lw_tbl[i]?) := by decide +kernel
theorem qg_2 : (u_ws RX2 TX2 11).all goodWord = true := by decide +kernel
theorem qn_2 : Cond.instantiable RX2 11 ∈ q_Ws ∧ Cond.initialized RX2 ∈ q_Ws := ⟨List.mem_filter.mpr ⟨List.mem_of_getElem? (i := 361) (by decide +kernel), by decide +kernel⟩, List.mem_filter.mpr ⟨List.mem_of_getElem? (i := 138) (by decide +kernel), by decide +kernel⟩⟩
theorem qo_2 : ∀ k, k < 11 → (TX2 k).1 = RX2 := by decide +kernel
theorem qd_2 : ∀ k, k < 11 → defaultValue (tyX2 k) = vp_V ([.null, .null, .null, .null, .null, .null, .int 0, .int 0, .int 0, .int 0, .int 0] : List Value) k := by decide +kernel
theorem qi_3 : u_ws RX3 TX3 10 = [512, 514, 516, 518, 520, 522, 524, 526, 528, 530].filterMap (fun i => lw_tbl[i]?) := by decide +kernel
theorem qg_3 : (u_ws RX3 TX3 10).all goodWord = true := by decide +kernel
theorem qn_3 : Cond.instantiable RX3 10 ∈ q_Ws ∧ Cond.initialized RX3 ∈ q_Ws := ⟨List.mem_filter.mpr ⟨List.mem_of_getElem? (i := 494) (by decide +kernel), by decide +kernel⟩, List.mem_filter.mpr ⟨List.mem_of_getElem? (i := 141) (by decide +kernel), by decide +kernel⟩⟩
theorem qo_3 : ∀ k, k < 10 → (TX3 k).1 = RX3 := by decide +kernel
theorem qd_3 : ∀ k, k < 10 → defaultValue (tyX3 k) = vp_V ([.null, .null, .null, .null, .null, .null, .int 0, .int 0, .int 0, .int 0] : List Value) k := by decide +kernel
theorem qi_4 : u_ws RX4 TX4 3 = [737, 739, 741].filterMap (fun i => lw_tbl[i]?) := by decide +kernel
theorem qg_4 : (u_ws RX4 TX4 3).all goodWord = true := by decide +kernel
theorem qn_4 : Cond.instantiable RX4 3 ∈ q_Ws ∧ Cond.initialized RX4 ∈ q_Ws := ⟨List.mem_filter.mpr ⟨List.mem_of_getElem? (i := 726) (by decide +kernel), by decide +kernel⟩, List.mem_filter.mpr ⟨List.mem_of_getElem? (i := 153) (by decide +kernel), by decide +kernel⟩⟩
theorem qo_4 : ∀ k, k < 3 → (TX4 k).1 = RX4 := by decide +kernel
theorem qd_4 : ∀ k, k < 3 → defaultValue (tyX4 k) = vp_V ([.null, .null, .int 0] : List Value) k := by decide +kernel
theorem qi_5 : u_ws RX5 TX5 6 = [302, 304, 306, 308, 310, 312].filterMap (fun i => lw_tbl[i]?) := by decide +kernel
theorem qg_5 : (u_ws RX5 TX5 6).all goodWord = true := by decide +kernel
theorem qn_5 : Cond.instantiable RX5 6 ∈ q_Ws ∧ Cond.initialized RX5 ∈ q_Ws := ⟨List.mem_filter.mpr ⟨List.mem_of_getElem? (i := 278) (by decide +kernel), by decide +kernel⟩, List.mem_filter.mpr ⟨List.mem_of_getElem? (i := 135) (by decide +kernel), by decide +kernel⟩⟩
theorem qo_5 : ∀ k, k < 6 → (TX5 k).1 = RX5 := by decide +kernel
theorem qd_5 : ∀ k, k < 6 → defaultValue (tyX5 k) = vp_V ([.null, .null, .null, .null, .int 0, .int 0] : List Value) k := by decide +kernel
theorem qi_6 : u_ws RX6 TX6 11 = [253, 255, 257, 259, 261, 263, 265, 267, 269, 271, 273].filterMap (fun i => lw_tbl[i]?) := by decide +kernel
theorem qg_6 : (u_ws RX6 TX6 11).all goodWord = true := by decide +kernel
theorem qn_6 : Cond.instantiable RX6 11 ∈ q_Ws ∧ Cond.initialized RX6 ∈ q_Ws := ⟨List.mem_filter.mpr ⟨List.mem_of_getElem? (i := 208) (by decide +kernel), by decide +kernel⟩, List.mem_filter.mpr ⟨List.mem_of_getElem? (i := 134) (by decide +kernel), by decide +kernel⟩⟩
theorem qo_6 : ∀ k, k < 11 → (TX6 k).1 = RX6 := by decide +kernel
theorem qd_6 : ∀ k, k < 11 → defaultValue (tyX6 k) = vp_V ([.int 0, .int 0, .int 0, .int 0, .int 0, .null, .null, .null, .null, .null, .null] : List Value) k := by decide +kernel
theorem qi_7 : u_ws RX7 TX7 4 = [544, 546, 548, 550].filterMap (fun i => lw_tbl[i]?) := by decide +kernel
theorem qg_7 : (u_ws RX7 TX7 4).all goodWord = true := by decide +kernel
theorem qn_7 : Cond.instantiable RX7 4 ∈ q_Ws ∧ Cond.initialized RX7 ∈ q_Ws := ⟨List.mem_filter.mpr ⟨List.mem_of_getElem? (i := 534) (by decide +kernel), by decide +kernel⟩, List.mem_filter.mpr ⟨List.mem_of_getElem? (i := 142) (by decide +kernel), by decide +kernel⟩⟩
theorem qo_7 : ∀ k, k < 4 → (TX7 k).1 = RX7 := by decide +kernel
theorem qd_7 : ∀ k, k < 4 → defaultValue (tyX7 k) = vp_V ([.null, .null, .int 0, .int 0] : List Value) k := by decide +kernel
theorem qi_8 : u_ws RX8 TX8 8 = [425, 427, 429, 431, 433, 435, 437, 439].filterMap (fun i => lw_tbl[i]?) := by decide +kernel
theorem qg_8 : (u_ws RX8 TX8 8).all goodWord = true := by decide +kernel
theorem qn_8 : Cond.instantiable RX8 8 ∈ q_Ws ∧ Cond.initialized RX8 ∈ q_Ws := ⟨List.mem_filter.mpr ⟨List.mem_of_getElem? (i := 410) (by decide +kernel), by decide +kernel⟩, List.mem_filter.mpr ⟨List.mem_of_getElem? (i := 139) (by decide +kernel), by decide +kernel⟩⟩
theorem qo_8 : ∀ k, k < 8 → (TX8 k).1 = RX8 := by decide +kernel
theorem qd_8 : ∀ k, k < 8 → defaultValue (tyX8 k) = vp_V ([.null, .null, .null, .int 0, .int 0, .int 0, .int 0, .int 0] : List Value) k := by decide +kernel
theorem qi_9 : u_ws RX9 TX9 8 = [189, 191, 193, 195, 197, 199, 201, 203].filterMap (fun i => lw_tbl[i]?) := by decide +kernel
theorem qg_9 : (u_ws RX9 TX9 8).all goodWord = true := by decide +kernel
theorem qn_9 : Cond.instantiable RX9 8 ∈ q_Ws ∧ Cond.initialized RX9 ∈ q_Ws := ⟨List.mem_filter.mpr ⟨List.mem_of_getElem? (i := 165) (by decide +kernel), by decide +kernel⟩, List.mem_filter.mpr ⟨List.mem_of_getElem? (i := 133) (by decide +kernel), by decide +kernel⟩⟩
theorem qo_9 : ∀ k, k < 8 → (TX9 k).1 = RX9 := by decide +kernel
theorem qd_9 : ∀ k, k < 8 → defaultValue (tyX9 k) = vp_V ([.null, .int 0, .int 0, .int 0, .int 0, .int 0, .int 0, .int 0] : List Value) k := by decide +kernel
theorem qi_10 : u_ws RX10 TX10 18 = [573, 575, 577, 579, 581, 583, 585, 587, 589, 591, 593, 595, 597, 599, 601, 603, 605, 607].filterMap (fun i => lw_tbl[i]?) := by decide +kernel
theorem qg_10 : (u_ws RX10 TX10 18).all goodWord = true := by decide +kernel
theorem qn_10 : Cond.instantiable RX10 18 ∈ q_Ws ∧ Cond.initialized RX10 ∈ q_Ws := ⟨List.mem_filter.mpr ⟨List.mem_of_getElem? (i := 157) (by decide +kernel), by decide +kernel⟩, List.mem_filter.mpr ⟨List.mem_of_getElem? (i := 132) (by decide +kernel), by decide +kernel⟩⟩
theorem qo_10 : ∀ k, k < 18 → (TX10 k).1 = RX10 := by decide +kernel
theorem qd_10 : ∀ k, k < 18 → defaultValue (tyX10 k) = vp_V ([.null, .null, .null, .null, .null, .null, .null, .null, .null, .null, .null, .null, .null, .null, .int 0, .int 0, .int 0, .int 0] : List Value) k := by decide +kernel
theorem qi_11 : u_ws RX11 TX11 62 = [1611, 1613, 1615, 1617, 1619, 1621, 1623, 1625, 1627, 1629, 1631, 1633, 1635, 1637, 1639, 1641, 1643, 1645, 1647, 1649, 1651, 1653, 1655, 1657, 1659, 1661, 1663, 1665, 1667, 1669, 1671, 1673, 1675, 1677, 1679, 1681, 1683, 1685, 1687, 1689, 1691, 1693, 1695, 1697, 1699, 1701, 1703, 1705, 1707, 1709, 1711, 1713, 1715, 1717, 1719, 1721, 1723, 1725, 1727, 1729, 1731, 1733].filterMap (fun i => lw_tbl[i]?) := by decide +kernel
theorem qg_11 : (u_ws RX11 TX11 62).all goodWord = true := by decide +kernel
theorem qn_11 : Cond.instantiable RX11 62 ∈ q_Ws ∧ Cond.initialized RX11 ∈ q_Ws := ⟨List.mem_filter.mpr ⟨List.mem_of_getElem? (i := 1532) (by decide +kernel), by decide +kernel⟩, List.mem_filter.mpr ⟨List.mem_of_getElem? (i := 143) (by decide +kernel), by decide +kernel⟩⟩
theorem qo_11 : ∀ k, k < 62 → (TX11 k).1 = RX11 := by decide +kernel
theorem qd_11 : ∀ k, k < 62 → defaultValue (tyX11 k) = vp_V ([.int 0, .null, .int 0, .int 0, .int 0, .int 0, .int 0, .int 0, .int 0, .null, .null, .null, .null, .null, .null, .null, .int 0, .int 0, .int 0, .int 0, .int 0, .int 0, .int 0, .int 0, .int 0, .int 0, .null, .null, .null, .null, .null, .int 0, .int 0, .null, .null, .null, .int 0, .int 0, .int 0, .int 0, .int 0, .int 0, .null, .null, .null, .null, .null, .null, .int 0, .null, .null, .null, .int 0, .int 0, .null, .null, .int 0, .null, .int 0, .int 0, .null, .int 0] : List Value) k := by decide +kernel
/-- what is known of a class of the program -/
def q_cOK (ci : Nat) (C : String) (T : u_T) (N : Nat) : Prop := (∀ w ∈ u_ws C T N, w ∈ q_Ws) ∧ (Cond.instantiable C N ∈ q_Ws ∧ Cond.initialized C ∈ q_Ws) ∧ (∀ k, k < N → (T k).1 = C) ∧ (∀ a, a < N → ∀ b, b < N → a ≠ b → (T a).2.1 ≠ (T b).2.1) ∧
  ∃ (ty : Nat → FieldType) (fs : List Value), (∀ k, k < N → parseFieldDescriptor (T k).2.2.1 = some (ty k)) ∧ q_dfl[ci]? = some fs ∧ fs.length = N ∧ (∀ k, k < N → defaultValue (ty k) = vp_V fs k) ∧ ∀ v ∈ fs, v = .int 0 ∨ v = .null
theorem q_wIn {ws : List Cond} {ps : List Nat} (h : ws = ps.filterMap (fun i => lw_tbl[i]?)) (hg : ws.all goodWord = true) : ∀ w ∈ ws, w ∈ q_Ws := by
  intro w hw
  have h1 := List.all_eq_true.mp hg w hw
  rw [h] at hw
  obtain ⟨i, -, hi⟩ := List.mem_filterMap.mp hw
  exact List.mem_filter.mpr ⟨List.mem_of_getElem? hi, h1⟩
theorem qc_0 : q_cOK 0 RX0 TX0 13 := ⟨q_wIn qi_0 qg_0, qn_0, qo_0, nmX0, tyX0, _, tyX0_ok, rfl, rfl, qd_0, by decide⟩
theorem qc_1 : q_cOK 1 RX1 TX1 9 := ⟨q_wIn qi_1 qg_1, qn_1, qo_1, nmX1, tyX1, _, tyX1_ok, rfl, rfl, qd_1, by decide⟩
theorem qc_2 : q_cOK 2 RX2 TX2 11 := ⟨q_wIn qi_2 qg_2, qn_2, qo_2, nmX2, tyX2, _, tyX2_ok, rfl, rfl, qd_2, by decide⟩
theorem qc_3 : q_cOK 3 RX3 TX3 10 := ⟨q_wIn qi_3 qg_3, qn_3, qo_3, nmX3, tyX3, _, tyX3_ok, rfl, rfl, qd_3, by decide⟩
theorem qc_4 : q_cOK 4 RX4 TX4 3 := ⟨q_wIn qi_4 qg_4, qn_4, qo_4, nmX4, tyX4, _, tyX4_ok, rfl, rfl, qd_4, by decide⟩
theorem qc_5 : q_cOK 5 RX5 TX5 6 := ⟨q_wIn qi_5 qg_5, qn_5, qo_5, nmX5, tyX5, _, tyX5_ok, rfl, rfl, qd_5, by decide⟩
theorem qc_6 : q_cOK 6 RX6 TX6 11 := ⟨q_wIn qi_6 qg_6, qn_6, qo_6, nmX6, tyX6, _, tyX6_ok, rfl, rfl, qd_6, by decide⟩
theorem qc_7 : q_cOK 7 RX7 TX7 4 := ⟨q_wIn qi_7 qg_7, qn_7, qo_7, nmX7, tyX7, _, tyX7_ok, rfl, rfl, qd_7, by decide⟩
theorem qc_8 : q_cOK 8 RX8 TX8 8 := ⟨q_wIn qi_8 qg_8, qn_8, qo_8, nmX8, tyX8, _, tyX8_ok, rfl, rfl, qd_8, by decide⟩
theorem qc_9 : q_cOK 9 RX9 TX9 8 := ⟨q_wIn qi_9 qg_9, qn_9, qo_9, nmX9, tyX9, _, tyX9_ok, rfl, rfl, qd_9, by decide⟩
theorem qc_10 : q_cOK 10 RX10 TX10 18 := ⟨q_wIn qi_10 qg_10, qn_10, qo_10, nmX10, tyX10, _, tyX10_ok, rfl, rfl, qd_10, by decide⟩
theorem qc_11 : q_cOK 11 RX11 TX11 62 := ⟨q_wIn qi_11 qg_11, qn_11, qo_11, nmX11, tyX11, _, tyX11_ok, rfl, rfl, qd_11, by decide⟩
theorem q_cAll {ci : Nat} {q : vw_C} (hc : q_cl[ci]? = some q) (hi : ci < 12) : q_cOK ci q.1 q.2.1 q.2.2 := by
  match ci, hi, hc with
  | 0, _, hc => cases hc; exact qc_0
  | 1, _, hc => cases hc; exact qc_1
  | 2, _, hc => cases hc; exact qc_2
  | 3, _, hc => cases hc; exact qc_3
  | 4, _, hc => cases hc; exact qc_4
  | 5, _, hc => cases hc; exact qc_5
  | 6, _, hc => cases hc; exact qc_6
  | 7, _, hc => cases hc; exact qc_7
  | 8, _, hc => cases hc; exact qc_8
  | 9, _, hc => cases hc; exact qc_9
  | 10, _, hc => cases hc; exact qc_10
  | 11, _, hc => cases hc; exact qc_11
  | n + 12, hi, _ => exact absurd hi (by omega)
