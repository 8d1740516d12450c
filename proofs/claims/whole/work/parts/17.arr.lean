section SOUND3
variable {X : qX} {l : Launch} {M : qM} {y : MethodName} {bytes : ByteArray} {ret : Option FieldType} {p : Program} {e : Env} {R : Room} {s : State} {m : MethodId} {args : Array Value} {below : List Frame} {meth : Method} {c : Code} {d : Nat} {h0 h' : qH} {o : qO}
variable {pc : Nat} {L st : List Value} {h : qH} {k : qK} {H : Heap} {locs : List Loc} {ls : Array Slot} {rest : List Value} {Q : State → Prop} {cells slots : Nat}
/-- the two rows that lie outside -/
theorem x_out {a t n : Nat} {f : Nat → Int32} (hG : x_G X s s.heap) (hW : x_W X h H) (ha : ¬ 2 ≤ a) (he : h[a]? = some (.inl (t, n, .inl f))) : t = 0 ∧ va_T .int (x_ad X a) n (fun j => .int (f j)) (x_A X) s s.heap ∧ x_ad X a < X.1 := by
  rcases a with _ | _ | a
  · rw [hW.2.2.1] at he
    cases he
    exact ⟨rfl, hG.2.2.1, hG.2.2.2.2.1⟩
  · rw [hW.2.2.2.1] at he
    cases he
    exact ⟨rfl, hG.2.2.2.1, hG.2.2.2.2.2.1⟩
  · omega
theorem x_o2l {a t n : Nat} {x : (Nat → Int32) ⊕ (Nat → Int64) ⊕ (Nat → UInt32) ⊕ (Nat → UInt64) ⊕ (Nat → Option Nat)} (hW : x_W X h H) (ht : t ≠ 0) (he : h[a]? = some (.inl (t, n, x))) : 2 ≤ a := by
  rcases a with _ | _ | a
  · rw [hW.2.2.1] at he
    cases he
    exact absurd rfl ht
  · rw [hW.2.2.2.1] at he
    cases he
    exact absurd rfl ht
  · omega
theorem so_iald {a n : Nat} {f : Nat → Int32} {i : Int32} (E : x_E X l M y bytes ret p R s m args meth c d h0 h') (hI : x_I X M.2.2.2.1 s h0 h H locs ls L) (hd : decode bytes pc = .ok (.iaload, 1)) (he : h[a]? = some (.inl (0, n, .inl f))) (hin : q_in i n = true)
    (kk : W p l e R s m args below meth c H locs cells slots Q (F0 m (pc + 1) ls (.int (f i.toNatClampNeg) :: rest))) : W p l e R s m args below meth c H locs cells slots Q (F0 m pc ls (.int i :: x_cv X (.ref a) :: rest)) := by
  obtain ⟨hx, hb, hml, hown, hts, hlocks, hr, hG, hR, hC, htr, hsz, hrow, hln, hnm, hlo, hhd, hth⟩ := E
  obtain ⟨hW, hS, hL, hq⟩ := hI
  by_cases ha : 2 ≤ a
  · exact va_iald hx hb hG.1 (xp_1 (x_at hW ha he)) 0 0 rfl rfl (x_in hin) hd kk
  · obtain ⟨-, h1, h2⟩ := x_out hG hW ha he
    exact va_ti hx hb h1 hS (x_in hin) rfl hd kk
theorem so_alen {a t : Nat} {x : vp_A} (E : x_E X l M y bytes ret p R s m args meth c d h0 h') (hI : x_I X M.2.2.2.1 s h0 h H locs ls L) (hd : decode bytes pc = .ok (.arraylength, 1)) (he : h[a]? = some (.inl (t, x))) (ht : t < 5)
    (kk : W p l e R s m args below meth c H locs cells slots Q (F0 m (pc + 1) ls (.int (Int32.ofNat x.1) :: rest))) : W p l e R s m args below meth c H locs cells slots Q (F0 m pc ls (x_cv X (.ref a) :: rest)) := by
  obtain ⟨hx, hb, hml, hown, hts, hlocks, hr, hG, hR, hC, htr, hsz, hrow, hln, hnm, hlo, hhd, hth⟩ := E
  obtain ⟨hW, hS, hL, hq⟩ := hI
  by_cases ha : 2 ≤ a
  · have hat := x_at hW ha he
    obtain ⟨ty, hty⟩ : ∃ ty, (x_tys X)[t]? = some (X.2.2.2.2.1 t, ty) := by
      match t, ht with
      | 0, _ => exact ⟨_, rfl⟩
      | 1, _ => exact ⟨_, rfl⟩
      | 2, _ => exact ⟨_, rfl⟩
      | 3, _ => exact ⟨_, rfl⟩
      | 4, _ => exact ⟨_, rfl⟩
      | n + 5, h => exact absurd h (by omega)
    obtain ⟨n, f | f | f | f | f⟩ := x
    · exact va_alen hx hb hG.1 (xp_1 hat) 0 t rfl hty rfl hd kk
    · exact va_alen hx hb hG.1 (xp_1 hat) 0 t rfl hty rfl hd kk
    · exact va_alen hx hb hG.1 (xp_1 hat) 0 t rfl hty rfl hd kk
    · exact va_alen hx hb hG.1 (xp_1 hat) 0 t rfl hty rfl hd kk
    · exact va_alen hx hb hG.1 (xp_1 hat) 0 t rfl hty rfl hd kk
  · obtain ⟨n, f | f | f | f | f⟩ := x
    · obtain ⟨-, h1, h2⟩ := x_out hG hW ha he
      exact va_tlen hx hb h1 hS rfl hd kk
    all_goals
      exfalso
      rcases a with _ | _ | a
      · rw [hW.2.2.1] at he
        cases he
      · rw [hW.2.2.2.1] at he
        cases he
      · omega
theorem so_bald {a t n : Nat} {f : Nat → Int32} {i : Int32} (E : x_E X l M y bytes ret p R s m args meth c d h0 h') (hI : x_I X M.2.2.2.1 s h0 h H locs ls L) (hd : decode bytes pc = .ok (.baload, 1)) (he : h[a]? = some (.inl (t, n, .inl f))) (ht : t = 2 ∨ t = 3) (hin : q_in i n = true)
    (kk : W p l e R s m args below meth c H locs cells slots Q (F0 m (pc + 1) ls (.int (f i.toNatClampNeg) :: rest))) : W p l e R s m args below meth c H locs cells slots Q (F0 m pc ls (.int i :: x_cv X (.ref a) :: rest)) := by
  obtain ⟨hx, hb, hml, hown, hts, hlocks, hr, hG, hR, hC, htr, hsz, hrow, hln, hnm, hlo, hhd, hth⟩ := E
  obtain ⟨hW, hS, hL, hq⟩ := hI
  have ha : 2 ≤ a := x_o2l hW (by rcases ht with rfl | rfl <;> decide) he
  rcases ht with rfl | rfl
  · exact va_bald hx hb hG.1 (xp_1 (x_at hW ha he)) 0 2 rfl rfl (x_in hin) hd kk
  · exact va_zald hx hb hG.1 (xp_1 (x_at hW ha he)) 0 3 rfl rfl (x_in hin) hd kk
theorem so_lald {a n : Nat} {f : Nat → Int64} {i : Int32} (E : x_E X l M y bytes ret p R s m args meth c d h0 h') (hI : x_I X M.2.2.2.1 s h0 h H locs ls L) (hd : decode bytes pc = .ok (.laload, 1)) (he : h[a]? = some (.inl (1, n, .inr (.inl f)))) (hin : q_in i n = true)
    (kk : W p l e R s m args below meth c H locs cells slots Q (F0 m (pc + 1) ls (.long (f i.toNatClampNeg) :: rest))) : W p l e R s m args below meth c H locs cells slots Q (F0 m pc ls (.int i :: x_cv X (.ref a) :: rest)) := by
  obtain ⟨hx, hb, hml, hown, hts, hlocks, hr, hG, hR, hC, htr, hsz, hrow, hln, hnm, hlo, hhd, hth⟩ := E
  obtain ⟨hW, hS, hL, hq⟩ := hI
  have ha : 2 ≤ a := x_o2l hW (by decide) he
  exact va_lald hx hb hG.1 (xp_1 (x_at hW ha he)) 0 1 rfl rfl (x_in hin) hd kk
theorem so_rald {a n : Nat} {f : Nat → Option Nat} {i : Int32} (E : x_E X l M y bytes ret p R s m args meth c d h0 h') (hI : x_I X M.2.2.2.1 s h0 h H locs ls L) (hd : decode bytes pc = .ok (.aaload, 1)) (he : h[a]? = some (.inl (4, n, .inr (.inr (.inr (.inr f)))))) (hin : q_in i n = true)
    (kk : W p l e R s m args below meth c H locs cells slots Q (F0 m (pc + 1) ls (x_cv X (va_rf (f i.toNatClampNeg)) :: rest))) : W p l e R s m args below meth c H locs cells slots Q (F0 m pc ls (.int i :: x_cv X (.ref a) :: rest)) := by
  obtain ⟨hx, hb, hml, hown, hts, hlocks, hr, hG, hR, hC, htr, hsz, hrow, hln, hnm, hlo, hhd, hth⟩ := E
  obtain ⟨hW, hS, hL, hq⟩ := hI
  have ha : 2 ≤ a := x_o2l hW (by decide) he
  have e1 : x_cv X (va_rf (f i.toNatClampNeg)) = va_rf ((f i.toNatClampNeg).map (x_ad X)) := by cases f i.toNatClampNeg <;> rfl
  rw [e1] at kk
  exact va_aldq hx hb hG.1 (xp_1 (x_at hW ha he)) 0 4 rfl rfl (x_in hin) hd kk
theorem so_iast {a n : Nat} {f : Nat → Int32} {i x : Int32} (E : x_E X l M y bytes ret p R s m args meth c d h0 h') (hI : x_I X M.2.2.2.1 s h0 h H locs ls L) (hd : decode bytes pc = .ok (.iastore, 1)) (he : h[a]? = some (.inl (0, n, .inl f))) (ha : 2 ≤ a) (hin : q_in i n = true)
    (kk : ∀ (H1 : Heap) (locs1 : List Loc), x_I X M.2.2.2.1 s h0 (h.set a (.inl (0, n, .inl (upd f i.toNatClampNeg x)))) H1 locs1 ls L → W p l e R s m args below meth c H1 locs1 cells slots Q (F0 m (pc + 1) ls rest)) : W p l e R s m args below meth c H locs cells slots Q (F0 m pc ls (.int x :: .int i :: x_cv X (.ref a) :: rest)) := by
  obtain ⟨hx, hb, hml, hown, hts, hlocks, hr, hG, hR, hC, htr, hsz, hrow, hln, hnm, hlo, hhd, hth⟩ := E
  obtain ⟨hW, hS, hL, hq⟩ := hI
  exact xr_iast hx hb hG.1 (x_adA ha) hS 0 (x_at hW ha he) rfl (x_in hin) hd fun H1 locs1 z oq hat hS1 => kk H1 locs1 ⟨x_upd hW ha he z oq hat, hS1, hL, hq.tr (q_le_set he rfl)⟩
theorem so_last {a n : Nat} {f : Nat → Int64} {i : Int32} {x : Int64} (E : x_E X l M y bytes ret p R s m args meth c d h0 h') (hI : x_I X M.2.2.2.1 s h0 h H locs ls L) (hd : decode bytes pc = .ok (.lastore, 1)) (he : h[a]? = some (.inl (1, n, .inr (.inl f)))) (ha : 2 ≤ a) (hin : q_in i n = true)
    (kk : ∀ (H1 : Heap) (locs1 : List Loc), x_I X M.2.2.2.1 s h0 (h.set a (.inl (1, n, .inr (.inl (vp_updL f i.toNatClampNeg x))))) H1 locs1 ls L → W p l e R s m args below meth c H1 locs1 cells slots Q (F0 m (pc + 1) ls rest)) : W p l e R s m args below meth c H locs cells slots Q (F0 m pc ls (.long x :: .int i :: x_cv X (.ref a) :: rest)) := by
  obtain ⟨hx, hb, hml, hown, hts, hlocks, hr, hG, hR, hC, htr, hsz, hrow, hln, hnm, hlo, hhd, hth⟩ := E
  obtain ⟨hW, hS, hL, hq⟩ := hI
  exact xr_last hx hb hG.1 (x_adA ha) hS 1 (x_at hW ha he) rfl (x_in hin) hd fun H1 locs1 z oq hat hS1 => kk H1 locs1 ⟨x_upd hW ha he z oq hat, hS1, hL, hq.tr (q_le_set he rfl)⟩
theorem so_bast {a t n : Nat} {f : Nat → Int32} {i x : Int32} (E : x_E X l M y bytes ret p R s m args meth c d h0 h') (hI : x_I X M.2.2.2.1 s h0 h H locs ls L) (hd : decode bytes pc = .ok (.bastore, 1)) (he : h[a]? = some (.inl (t, n, .inl f))) (ha : 2 ≤ a) (ht : t = 2 ∨ (t = 3 ∧ (x = 0 ∨ x = 1))) (hin : q_in i n = true)
    (kk : ∀ (H1 : Heap) (locs1 : List Loc), x_I X M.2.2.2.1 s h0 (h.set a (.inl (t, n, .inl (upd f i.toNatClampNeg (if t = 2 then vp_nar .byte x else x))))) H1 locs1 ls L → W p l e R s m args below meth c H1 locs1 cells slots Q (F0 m (pc + 1) ls rest)) : W p l e R s m args below meth c H locs cells slots Q (F0 m pc ls (.int x :: .int i :: x_cv X (.ref a) :: rest)) := by
  obtain ⟨hx, hb, hml, hown, hts, hlocks, hr, hG, hR, hC, htr, hsz, hrow, hln, hnm, hlo, hhd, hth⟩ := E
  obtain ⟨hW, hS, hL, hq⟩ := hI
  rcases ht with rfl | ⟨rfl, ht⟩
  · exact xr_bast hx hb hG.1 (x_adA ha) hS 2 (x_at hW ha he) rfl (x_in hin) hd fun H1 locs1 z oq hat hS1 => kk H1 locs1 ⟨x_upd hW ha he z oq (by rw [if_pos rfl]; exact hat), hS1, hL, hq.tr (q_le_set he rfl)⟩
  · have e1 : vp_nar .boolean x = x := by rcases ht with rfl | rfl <;> rfl
    exact xr_zast hx hb hG.1 (x_adA ha) hS 3 (x_at hW ha he) rfl (x_in hin) hd fun H1 locs1 z oq hat hS1 => kk H1 locs1 ⟨x_upd hW ha he z oq (by rw [e1] at hat; rw [if_neg (by decide)]; exact hat), hS1, hL, hq.tr (q_le_set he rfl)⟩
theorem so_rast {a b n : Nat} {f : Nat → Option Nat} {fs : List Value} {i : Int32} (E : x_E X l M y bytes ret p R s m args meth c d h0 h') (hI : x_I X M.2.2.2.1 s h0 h H locs ls L) (hd : decode bytes pc = .ok (.aastore, 1)) (he : h[a]? = some (.inl (4, n, .inr (.inr (.inr (.inr f)))))) (ha : 2 ≤ a) (hin : q_in i n = true) (hb2 : h[b]? = some (.inr (4, fs)))
    (kk : ∀ (H1 : Heap) (locs1 : List Loc), x_I X M.2.2.2.1 s h0 (h.set a (.inl (4, n, .inr (.inr (.inr (.inr (va_up f i.toNatClampNeg (some b)))))))) H1 locs1 ls L → W p l e R s m args below meth c H1 locs1 cells slots Q (F0 m (pc + 1) ls rest)) : W p l e R s m args below meth c H locs cells slots Q (F0 m pc ls (x_cv X (.ref b) :: .int i :: x_cv X (.ref a) :: rest)) := by
  obtain ⟨hx, hb, hml, hown, hts, hlocks, hr, hG, hR, hC, htr, hsz, hrow, hln, hnm, hlo, hhd, hth⟩ := E
  obtain ⟨hW, hS, hL, hq⟩ := hI
  have hbb := x_o2 hW hb2
  refine xr_astq (r := (RX4, TX4, 3)) hx hb hG.1 (x_adA ha) hS 4 4 (x_at hW ha he) rfl (x_at hW hbb hb2) rfl (x_in hin) hd fun H1 locs1 z oq hat hS1 => kk H1 locs1 ⟨x_upd hW ha he z oq ?_, hS1, hL, hq.tr (q_le_set he rfl)⟩
  have e1 : (fun j => (va_up f i.toNatClampNeg (some b) j).map (x_ad X)) = va_up (fun j => (f j).map (x_ad X)) i.toNatClampNeg (some (x_ad X b)) := by
    funext j
    by_cases hj : j = i.toNatClampNeg
    · subst hj
      simp [va_up]
    · simp [va_up, hj]
  show va_at (x_D X) q_cl (x_ad X a, .inl (X.2.2.2.2.1 4, n, .inr (.inr (.inr (.inr fun j => (va_up f i.toNatClampNeg (some b) j).map (x_ad X)))))) H1
  rw [e1]
  exact hat
end SOUND3
