--DEPS a9.qp
section QS
variable {R : zR} {F : zF} {I : Nat → Nat → Int} {A : Nat → Int → Int} {W : qWt} {c n d : Nat} {f : Nat → Int32}
theorem QP_told {a1 : Int} (hd : 20 ≤ d) (hI : Ivs c n f I A W) (w1 : wI a1) : QP (d + 1) c n f I A W 285 [.ref 2, .int (zI a1), .ref 89] 228 [.ref 59, .int (zI a1)] := by
  obtain ⟨R, F, l, r, T, tl, hw⟩ := hI.1
  have hc := hw.c rfl
  have e5 : I 36 6 = I 59 48 := hw.2.2.2.2.1.2.2.2
  have e6 : I 2 15 = I 59 38 := hw.2.2.2.2.2.1
  refine qp hI hw rfl (C_told (by omega) hc w1) (fun I1 A1 W1 hX hT q1 q2 => by
    have := M_told (W := W1) (d := d + 1) (by omega) hX w1
    rw [q1, q2, ← e5, ← e6] at this
    exact this) (fun x h1 e => ?_) (fun ho q h1 e => ?_) (fun ho q h1 e => ?_) (.inl rfl)
  · rw [cl_L_told, hL_told_0 _ _ _ _ _ _ _ e, mc_2]
  · exfalso; split at ho <;> omega
  · rw [cl_L_told, hL_told_e1 _ _ _ _ _ _ _ e, mc_2]
    rfl
theorem QP_house {a1 a2 : Int} (hd : 20 ≤ d) (hI : Ivs c n f I A W) (w1 : wI a1) (w2 : wI a2) : QP (d + 1) c n f I A W 286 [.ref 2, .int (zI a1), .int (zI a2), .ref 89] 231 [.ref 59, .int (zI a1), .int (zI a2)] := by
  obtain ⟨R, F, l, r, T, tl, hw⟩ := hI.1
  have hc := hw.c rfl
  refine qp hI hw rfl (C_house (by omega) hc w1 w2) (fun I1 A1 W1 hX hT q1 q2 => M_house (by omega) hX w1 w2) (fun x h1 e => ?_) (fun ho q h1 e => ?_) (fun ho q h1 e => ?_) (.inr rfl)
  · rw [cl_L_house, hL_house_0 _ _ _ _ _ _ _ _ e, mc_2]
  · rw [cl_L_house, hL_house_e0 _ _ _ _ _ _ _ _ e, mc_2]
    rfl
  · rw [cl_L_house, hL_house_e1 _ _ _ _ _ _ _ _ e, mc_2]
    rfl
theorem QP_wink {a1 a2 : Int} (hd : 20 ≤ d) (hI : Ivs c n f I A W) (w1 : wI a1) (w2 : wI a2) : QP (d + 1) c n f I A W 287 [.ref 2, .int (zI a1), .int (zI a2), .ref 89] 232 [.ref 59, .int (zI a1), .int (zI a2)] := by
  obtain ⟨R, F, l, r, T, tl, hw⟩ := hI.1
  have hc := hw.c rfl
  refine qp hI hw rfl (C_wink (by omega) hc w1 w2) (fun I1 A1 W1 hX hT q1 q2 => M_wink (by omega) hX w1 w2) (fun x h1 e => ?_) (fun ho q h1 e => ?_) (fun ho q h1 e => ?_) (.inr rfl)
  · rw [cl_L_wink, hL_wink_0 _ _ _ _ _ _ _ _ e, mc_2]
  · rw [cl_L_wink, hL_wink_e0 _ _ _ _ _ _ _ _ e, mc_2]
    rfl
  · rw [cl_L_wink, hL_wink_e1 _ _ _ _ _ _ _ _ e, mc_2]
    rfl
theorem QP_cup {a1 a2 : Int} (hd : 20 ≤ d) (hI : Ivs c n f I A W) (w1 : wI a1) (w2 : wI a2) : QP (d + 1) c n f I A W 288 [.ref 2, .int (zI a1), .int (zI a2), .ref 89] 233 [.ref 59, .int (zI a1), .int (zI a2)] := by
  obtain ⟨R, F, l, r, T, tl, hw⟩ := hI.1
  have hc := hw.c rfl
  refine qp hI hw rfl (C_cup (by omega) hc w1 w2) (fun I1 A1 W1 hX hT q1 q2 => M_cup (by omega) hX w1 w2) (fun x h1 e => ?_) (fun ho q h1 e => ?_) (fun ho q h1 e => ?_) (.inr rfl)
  · rw [cl_L_cup, hL_cup_0 _ _ _ _ _ _ _ _ e, mc_2]
  · rw [cl_L_cup, hL_cup_e0 _ _ _ _ _ _ _ _ e, mc_2]
    rfl
  · rw [cl_L_cup, hL_cup_e1 _ _ _ _ _ _ _ _ e, mc_2]
    rfl
theorem QP_cell {a1 a2 : Int} (hd : 20 ≤ d) (hI : Ivs c n f I A W) (w1 : wI a1) (w2 : wI a2) : QP (d + 1) c n f I A W 289 [.ref 2, .int (zI a1), .int (zI a2), .ref 89] 234 [.ref 59, .int (zI a1), .int (zI a2)] := by
  obtain ⟨R, F, l, r, T, tl, hw⟩ := hI.1
  have hc := hw.c rfl
  refine qp hI hw rfl (C_cell (by omega) hc w1 w2) (fun I1 A1 W1 hX hT q1 q2 => M_cell (by omega) hX w1 w2) (fun x h1 e => ?_) (fun ho q h1 e => ?_) (fun ho q h1 e => ?_) (.inr rfl)
  · rw [cl_L_cell, hL_cell_0 _ _ _ _ _ _ _ _ e, mc_2]
  · rw [cl_L_cell, hL_cell_e0 _ _ _ _ _ _ _ _ e, mc_2]
    rfl
  · rw [cl_L_cell, hL_cell_e1 _ _ _ _ _ _ _ _ e, mc_2]
    rfl
theorem QP_flies {a1 a2 : Int} (hd : 20 ≤ d) (hI : Ivs c n f I A W) (w1 : wI a1) (w2 : wI a2) : QP (d + 1) c n f I A W 290 [.ref 2, .int (zI a1), .int (zI a2), .ref 89] 236 [.ref 59, .int (zI a1), .int (zI a2)] := by
  obtain ⟨R, F, l, r, T, tl, hw⟩ := hI.1
  have hc := hw.c rfl
  refine qp hI hw rfl (C_flies (by omega) hc w1 w2) (fun I1 A1 W1 hX hT q1 q2 => M_flies (by omega) hX w1 w2) (fun x h1 e => ?_) (fun ho q h1 e => ?_) (fun ho q h1 e => ?_) (.inr rfl)
  · rw [cl_L_flies, hL_flies_0 _ _ _ _ _ _ _ _ e, mc_2]
  · rw [cl_L_flies, hL_flies_e0 _ _ _ _ _ _ _ _ e, mc_2]
    rfl
  · rw [cl_L_flies, hL_flies_e1 _ _ _ _ _ _ _ _ e, mc_2]
    rfl
theorem QP_would {a1 a2 a3 a4 a5 a6 a7 a8 a9 : Int} (hd : 20 ≤ d) (hI : Ivs c n f I A W) (w1 : wI a1) (w2 : wI a2) (w3 : wI a3) (w4 : wI a4) (w5 : wI a5) (w6 : wI a6) (w7 : wI a7) (w8 : wI a8) (w9 : wI a9) : QP (d + 1) c n f I A W 291 [.ref 2, .int (zI a1), .int (zI a2), .int (zI a3), .int (zI a4), .int (zI a5), .int (zI a6), .int (zI a7), .int (zI a8), .int (zI a9), .ref 89] 237 [.ref 59, .int (zI a1), .int (zI a2), .int (zI a3), .int (zI a4), .int (zI a5), .int (zI a6), .int (zI a7), .int (zI a8), .int (zI a9)] := by
  obtain ⟨R, F, l, r, T, tl, hw⟩ := hI.1
  have hc := hw.c rfl
  refine qp hI hw rfl (C_would (by omega) hc w1 w2 w3 w4 w5 w6 w7 w8 w9) (fun I1 A1 W1 hX hT q1 q2 => M_would (by omega) hX w1 w2 w3 w4 w5 w6 w7 w8 w9) (fun x h1 e => ?_) (fun ho q h1 e => ?_) (fun ho q h1 e => ?_) (.inl rfl)
  · rw [cl_L_would, hL_would_0 _ _ _ _ _ _ _ _ _ _ _ _ _ _ _ e, mc_2]
  · exfalso; split at ho <;> omega
  · rw [cl_L_would, hL_would_e1 _ _ _ _ _ _ _ _ _ _ _ _ _ _ _ e, mc_2]
    rfl
theorem QP_down {a1 a2 a3 : Int} (hd : 20 ≤ d) (hI : Ivs c n f I A W) (w1 : wI a1) (w2 : wI a2) (w3 : wI a3) : QP (d + 1) c n f I A W 292 [.ref 2, .int (zI a1), .int (zI a2), .int (zI a3), .ref 89] 240 [.ref 59, .int (zI a1), .int (zI a2), .int (zI a3)] := by
  obtain ⟨R, F, l, r, T, tl, hw⟩ := hI.1
  have hc := hw.c rfl
  refine qp hI hw rfl (C_down (by omega) hc w1 w2 w3) (fun I1 A1 W1 hX hT q1 q2 => M_down (by omega) hX w1 w2 w3) (fun x h1 e => ?_) (fun ho q h1 e => ?_) (fun ho q h1 e => ?_) (.inr rfl)
  · rw [cl_L_down, hL_down_0 _ _ _ _ _ _ _ _ _ e, mc_2]
  · rw [cl_L_down, hL_down_e0 _ _ _ _ _ _ _ _ _ e, mc_2]
    rfl
  · rw [cl_L_down, hL_down_e1 _ _ _ _ _ _ _ _ _ e, mc_2]
    rfl
theorem QP_presses {a1 a2 : Int} (hd : 20 ≤ d) (hI : Ivs c n f I A W) (w1 : wI a1) (w2 : wI a2) : QP (d + 1) c n f I A W 293 [.ref 2, .int (zI a1), .int (zI a2), .ref 89] 241 [.ref 59, .int (zI a1), .int (zI a2)] := by
  obtain ⟨R, F, l, r, T, tl, hw⟩ := hI.1
  have hc := hw.c rfl
  refine qp hI hw rfl (C_presses (by omega) hc w1 w2) (fun I1 A1 W1 hX hT q1 q2 => M_presses (by omega) hX w1 w2) (fun x h1 e => ?_) (fun ho q h1 e => ?_) (fun ho q h1 e => ?_) (.inr rfl)
  · rw [cl_L_presses, hL_presses_0 _ _ _ _ _ _ _ _ e, mc_2]
  · rw [cl_L_presses, hL_presses_e0 _ _ _ _ _ _ _ _ e, mc_2]
    rfl
  · rw [cl_L_presses, hL_presses_e1 _ _ _ _ _ _ _ _ e, mc_2]
    rfl
theorem QP_gain {a1 a2 : Int} (hd : 20 ≤ d) (hI : Ivs c n f I A W) (w1 : wI a1) (w2 : wI a2) : QP (d + 1) c n f I A W 294 [.ref 2, .int (zI a1), .int (zI a2), .ref 89] 242 [.ref 59, .int (zI a1), .int (zI a2)] := by
  obtain ⟨R, F, l, r, T, tl, hw⟩ := hI.1
  have hc := hw.c rfl
  refine qp hI hw rfl (C_gain (by omega) hc w1 w2) (fun I1 A1 W1 hX hT q1 q2 => M_gain (by omega) hX w1 w2) (fun x h1 e => ?_) (fun ho q h1 e => ?_) (fun ho q h1 e => ?_) (.inr rfl)
  · rw [cl_L_gain, hL_gain_0 _ _ _ _ _ _ _ _ e, mc_2]
  · rw [cl_L_gain, hL_gain_e0 _ _ _ _ _ _ _ _ e, mc_2]
    rfl
  · rw [cl_L_gain, hL_gain_e1 _ _ _ _ _ _ _ _ e, mc_2]
    rfl
theorem QP_way {a1 a2 : Int} (hd : 20 ≤ d) (hI : Ivs c n f I A W) (w1 : wI a1) (w2 : wI a2) : QP (d + 1) c n f I A W 295 [.ref 2, .int (zI a1), .int (zI a2), .ref 89] 244 [.ref 59, .int (zI a1), .int (zI a2)] := by
  obtain ⟨R, F, l, r, T, tl, hw⟩ := hI.1
  have hc := hw.c rfl
  refine qp hI hw rfl (C_way (by omega) hc w1 w2) (fun I1 A1 W1 hX hT q1 q2 => M_way (by omega) hX w1 w2) (fun x h1 e => ?_) (fun ho q h1 e => ?_) (fun ho q h1 e => ?_) (.inr rfl)
  · rw [cl_L_way, hL_way_0 _ _ _ _ _ _ _ _ e, mc_2]
  · rw [cl_L_way, hL_way_e0 _ _ _ _ _ _ _ _ e, mc_2]
    rfl
  · rw [cl_L_way, hL_way_e1 _ _ _ _ _ _ _ _ e, mc_2]
    rfl
theorem QP_odds {a1 a2 a3 a4 : Int} (hd : 20 ≤ d) (hI : Ivs c n f I A W) (w1 : wI a1) (w2 : wI a2) (w3 : wI a3) (w4 : wI a4) : QP (d + 1) c n f I A W 296 [.ref 2, .int (zI a1), .int (zI a2), .int (zI a3), .int (zI a4), .ref 89] 249 [.ref 59, .int (zI a1), .int (zI a2), .int (zI a3), .int (zI a4)] := by
  obtain ⟨R, F, l, r, T, tl, hw⟩ := hI.1
  have hc := hw.c rfl
  refine qp hI hw rfl (C_odds (by omega) hc w1 w2 w3 w4) (fun I1 A1 W1 hX hT q1 q2 => M_odds (by omega) hX w1 w2 w3 w4) (fun x h1 e => ?_) (fun ho q h1 e => ?_) (fun ho q h1 e => ?_) (.inr rfl)
  · rw [cl_L_odds, hL_odds_0 _ _ _ _ _ _ _ _ _ _ e, mc_2]
  · rw [cl_L_odds, hL_odds_e0 _ _ _ _ _ _ _ _ _ _ e, mc_2]
    rfl
  · rw [cl_L_odds, hL_odds_e1 _ _ _ _ _ _ _ _ _ _ e, mc_2]
    rfl
theorem QP_mean {a1 a2 a3 a4 : Int} (hd : 20 ≤ d) (hI : Ivs c n f I A W) (w1 : wI a1) (w2 : wI a2) (w3 : wI a3) (w4 : wI a4) : QP (d + 1) c n f I A W 297 [.ref 2, .int (zI a1), .int (zI a2), .int (zI a3), .int (zI a4), .ref 89] 250 [.ref 59, .int (zI a1), .int (zI a2), .int (zI a3), .int (zI a4)] := by
  obtain ⟨R, F, l, r, T, tl, hw⟩ := hI.1
  have hc := hw.c rfl
  refine qp hI hw rfl (C_mean (by omega) hc w1 w2 w3 w4) (fun I1 A1 W1 hX hT q1 q2 => M_mean (by omega) hX w1 w2 w3 w4) (fun x h1 e => ?_) (fun ho q h1 e => ?_) (fun ho q h1 e => ?_) (.inr rfl)
  · rw [cl_L_mean, hL_mean_0 _ _ _ _ _ _ _ _ _ _ e, mc_2]
  · rw [cl_L_mean, hL_mean_e0 _ _ _ _ _ _ _ _ _ _ e, mc_2]
    rfl
  · rw [cl_L_mean, hL_mean_e1 _ _ _ _ _ _ _ _ _ _ e, mc_2]
    rfl
theorem QP_matched {a1 : Int} (hd : 20 ≤ d) (hI : Ivs c n f I A W) (w1 : wI a1) : QP (d + 1) c n f I A W 298 [.ref 2, .int (zI a1), .ref 89] 254 [.ref 59, .int (zI a1)] := by
  obtain ⟨R, F, l, r, T, tl, hw⟩ := hI.1
  have hc := hw.c rfl
  refine qp hI hw rfl (C_matched (by omega) hc w1) (fun I1 A1 W1 hX hT q1 q2 => M_matched (by omega) hX w1) (fun x h1 e => ?_) (fun ho q h1 e => ?_) (fun ho q h1 e => ?_) (.inr rfl)
  · rw [cl_L_matched, hL_matched_0 _ _ _ _ _ _ _ e, mc_2]
  · rw [cl_L_matched, hL_matched_e0 _ _ _ _ _ _ _ e, mc_2]
    rfl
  · exfalso; split at ho <;> omega
theorem QP_fits {a1 a2 : Int} (hd : 20 ≤ d) (hI : Ivs c n f I A W) (w1 : wI a1) (w2 : wI a2) : QP (d + 1) c n f I A W 299 [.ref 2, .int (zI a1), .int (zI a2), .ref 89] 257 [.ref 59, .int (zI a1), .int (zI a2)] := by
  obtain ⟨R, F, l, r, T, tl, hw⟩ := hI.1
  have hc := hw.c rfl
  refine qp hI hw rfl (C_fits (by omega) hc hw.2.2.2.2.1.1 hw.2.2.2.2.1.2.2.1 w1 w2) (fun I1 A1 W1 hX hT q1 q2 => M_fits (by omega) hX hT hw.2.2.2.2.1.2.2.1 w1 w2) (fun x h1 e => ?_) (fun ho q h1 e => ?_) (fun ho q h1 e => ?_) (.inr rfl)
  · rw [cl_L_fits, hL_fits_0 _ _ _ _ _ _ _ _ e, mc_2]
  · rw [cl_L_fits, hL_fits_e0 _ _ _ _ _ _ _ _ e, mc_2]
    rfl
  · rw [cl_L_fits, hL_fits_e1 _ _ _ _ _ _ _ _ e, mc_2]
    rfl
theorem QP_look {a1 a2 : Int} (hd : 20 ≤ d) (hI : Ivs c n f I A W) (w1 : wI a1) (w2 : wI a2) : QP (d + 1) c n f I A W 300 [.ref 2, .int (zI a1), .int (zI a2), .ref 89] 259 [.ref 59, .int (zI a1), .int (zI a2)] := by
  obtain ⟨R, F, l, r, T, tl, hw⟩ := hI.1
  have hc := hw.c rfl
  refine qp hI hw rfl (C_look (by omega) hc hw.2.2.2.2.1.1 hw.2.2.2.2.1.2.2.1 w1 w2) (fun I1 A1 W1 hX hT q1 q2 => M_look (by omega) hX hT hw.2.2.2.2.1.2.2.1 w1 w2) (fun x h1 e => ?_) (fun ho q h1 e => ?_) (fun ho q h1 e => ?_) (.inr rfl)
  · rw [cl_L_look, hL_look_0 _ _ _ _ _ _ _ _ e, mc_2]
  · rw [cl_L_look, hL_look_e0 _ _ _ _ _ _ _ _ e, mc_2]
    rfl
  · rw [cl_L_look, hL_look_e1 _ _ _ _ _ _ _ _ e, mc_2]
    rfl
theorem QP_duel {a1 a2 a3 : Int} (hd : 20 ≤ d) (hI : Ivs c n f I A W) (w1 : wI a1) (w2 : wI a2) (w3 : wI a3) : QP (d + 1) c n f I A W 301 [.ref 2, .int (zI a1), .int (zI a2), .int (zI a3), .ref 89] 262 [.ref 59, .int (zI a1), .int (zI a2), .int (zI a3)] := by
  obtain ⟨R, F, l, r, T, tl, hw⟩ := hI.1
  have hc := hw.c rfl
  refine qp hI hw rfl (C_duel (by omega) hc w1 w2 w3) (fun I1 A1 W1 hX hT q1 q2 => M_duel (by omega) hX w1 w2 w3) (fun x h1 e => ?_) (fun ho q h1 e => ?_) (fun ho q h1 e => ?_) (.inr rfl)
  · rw [cl_L_duel, hL_duel_0 _ _ _ _ _ _ _ _ _ e, mc_2]
  · rw [cl_L_duel, hL_duel_e0 _ _ _ _ _ _ _ _ _ e, mc_2]
    rfl
  · rw [cl_L_duel, hL_duel_e1 _ _ _ _ _ _ _ _ _ e, mc_2]
    rfl
theorem QP_panic {a1 a2 : Int} (hd : 20 ≤ d) (hI : Ivs c n f I A W) (w1 : wI a1) (w2 : wI a2) : QP (d + 1) c n f I A W 302 [.ref 2, .int (zI a1), .int (zI a2), .ref 89] 263 [.ref 59, .int (zI a1), .int (zI a2)] := by
  obtain ⟨R, F, l, r, T, tl, hw⟩ := hI.1
  have hc := hw.c rfl
  refine qp hI hw rfl (C_panic (by omega) hc w1 w2) (fun I1 A1 W1 hX hT q1 q2 => M_panic (by omega) hX w1 w2) (fun x h1 e => ?_) (fun ho q h1 e => ?_) (fun ho q h1 e => ?_) (.inl rfl)
  · rw [cl_L_panic, hL_panic_0 _ _ _ _ _ _ _ _ e, mc_2]
  · exfalso; split at ho <;> omega
  · rw [cl_L_panic, hL_panic_e1 _ _ _ _ _ _ _ _ e, mc_2]
    rfl
theorem QP_level {a1 a2 : Int} (hd : 20 ≤ d) (hI : Ivs c n f I A W) (w1 : wI a1) (w2 : wI a2) : QP (d + 1) c n f I A W 303 [.ref 2, .int (zI a1), .int (zI a2), .ref 89] 265 [.ref 59, .int (zI a1), .int (zI a2)] := by
  obtain ⟨R, F, l, r, T, tl, hw⟩ := hI.1
  have hc := hw.c rfl
  refine qp hI hw rfl (C_level (by omega) hc w1 w2) (fun I1 A1 W1 hX hT q1 q2 => M_level (by omega) hX w1 w2) (fun x h1 e => ?_) (fun ho q h1 e => ?_) (fun ho q h1 e => ?_) (.inr rfl)
  · rw [cl_L_level, hL_level_0 _ _ _ _ _ _ _ _ e, mc_2]
  · rw [cl_L_level, hL_level_e0 _ _ _ _ _ _ _ _ e, mc_2]
    rfl
  · rw [cl_L_level, hL_level_e1 _ _ _ _ _ _ _ _ e, mc_2]
    rfl
theorem QP_trust {a1 : Int} (hd : 20 ≤ d) (hI : Ivs c n f I A W) (w1 : wI a1) : QP (d + 1) c n f I A W 304 [.ref 2, .int (zI a1), .ref 89] 266 [.ref 59, .int (zI a1)] := by
  obtain ⟨R, F, l, r, T, tl, hw⟩ := hI.1
  have hc := hw.c rfl
  refine qp hI hw rfl (C_trust (by omega) hc w1) (fun I1 A1 W1 hX hT q1 q2 => M_trust (by omega) hX w1) (fun x h1 e => ?_) (fun ho q h1 e => ?_) (fun ho q h1 e => ?_) (.inl rfl)
  · rw [cl_L_trust, hL_trust_0 _ _ _ _ _ _ _ e, mc_2]
  · exfalso; split at ho <;> omega
  · rw [cl_L_trust, hL_trust_e1 _ _ _ _ _ _ _ e, mc_2]
    rfl
theorem QP_richest {a1 : Int} (hd : 20 ≤ d) (hI : Ivs c n f I A W) (w1 : wI a1) : QP (d + 1) c n f I A W 305 [.ref 2, .int (zI a1), .ref 89] 267 [.ref 59, .int (zI a1)] := by
  obtain ⟨R, F, l, r, T, tl, hw⟩ := hI.1
  have hc := hw.c rfl
  refine qp hI hw rfl (C_richest (by omega) hc w1) (fun I1 A1 W1 hX hT q1 q2 => M_richest (by omega) hX w1) (fun x h1 e => ?_) (fun ho q h1 e => ?_) (fun ho q h1 e => ?_) (.inl rfl)
  · rw [cl_L_richest, hL_richest_0 _ _ _ _ _ _ _ e, mc_2]
  · exfalso; split at ho <;> omega
  · rw [cl_L_richest, hL_richest_e1 _ _ _ _ _ _ _ e, mc_2]
    rfl
theorem QP_ahead {a1 a2 : Int} (hd : 20 ≤ d) (hI : Ivs c n f I A W) (w1 : wI a1) (w2 : wI a2) : QP (d + 1) c n f I A W 306 [.ref 2, .int (zI a1), .int (zI a2), .ref 89] 268 [.ref 59, .int (zI a1), .int (zI a2)] := by
  obtain ⟨R, F, l, r, T, tl, hw⟩ := hI.1
  have hc := hw.c rfl
  refine qp hI hw rfl (C_ahead (by omega) hc w1 w2) (fun I1 A1 W1 hX hT q1 q2 => M_ahead (by omega) hX w1 w2) (fun x h1 e => ?_) (fun ho q h1 e => ?_) (fun ho q h1 e => ?_) (.inr rfl)
  · rw [cl_L_ahead, hL_ahead_0 _ _ _ _ _ _ _ _ e, mc_2]
  · rw [cl_L_ahead, hL_ahead_e0 _ _ _ _ _ _ _ _ e, mc_2]
    rfl
  · rw [cl_L_ahead, hL_ahead_e1 _ _ _ _ _ _ _ _ e, mc_2]
    rfl
theorem QP_season {a1 a2 a3 a4 : Int} (hd : 20 ≤ d) (hI : Ivs c n f I A W) (w1 : wI a1) (w2 : wI a2) (w3 : wI a3) (w4 : wI a4) : QP (d + 1) c n f I A W 307 [.ref 2, .int (zI a1), .int (zI a2), .int (zI a3), .int (zI a4), .ref 89] 273 [.ref 59, .int (zI a1), .int (zI a2), .int (zI a3), .int (zI a4)] := by
  obtain ⟨R, F, l, r, T, tl, hw⟩ := hI.1
  have hc := hw.c rfl
  refine qp hI hw rfl (C_season (by omega) hc w2 w3 w4) (fun I1 A1 W1 hX hT q1 q2 => M_season (by omega) hX w2 w3 w4) (fun x h1 e => ?_) (fun ho q h1 e => ?_) (fun ho q h1 e => ?_) (.inl rfl)
  · rw [cl_L_season, hL_season_0 _ _ _ _ _ _ _ _ _ _ e, mc_2]
  · exfalso; split at ho <;> omega
  · rw [cl_L_season, hL_season_e1 _ _ _ _ _ _ _ _ _ _ e, mc_2]
    rfl
theorem QP_span {a1 a2 a3 a4 a5 : Int} (hd : 20 ≤ d) (hI : Ivs c n f I A W) (w1 : wI a1) (w2 : wI a2) (w3 : wI a3) (w4 : wI a4) (w5 : wI a5) : QP (d + 1) c n f I A W 308 [.ref 2, .int (zI a1), .int (zI a2), .int (zI a3), .int (zI a4), .int (zI a5), .ref 89] 274 [.ref 59, .int (zI a1), .int (zI a2), .int (zI a3), .int (zI a4), .int (zI a5)] := by
  obtain ⟨R, F, l, r, T, tl, hw⟩ := hI.1
  have hc := hw.c rfl
  refine qp hI hw rfl (C_span (by omega) hc w2 w3 w4 w5) (fun I1 A1 W1 hX hT q1 q2 => M_span (by omega) hX w2 w3 w4 w5) (fun x h1 e => ?_) (fun ho q h1 e => ?_) (fun ho q h1 e => ?_) (.inl rfl)
  · rw [cl_L_span, hL_span_0 _ _ _ _ _ _ _ _ _ _ _ e, mc_2]
  · exfalso; split at ho <;> omega
  · rw [cl_L_span, hL_span_e1 _ _ _ _ _ _ _ _ _ _ _ e, mc_2]
    rfl
end QS
