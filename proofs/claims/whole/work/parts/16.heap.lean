section SOUND2
variable {X : qX} {l : Launch} {M : qM} {y : MethodName} {bytes : ByteArray} {ret : Option FieldType} {p : Program} {e : Env} {R : Room} {s : State} {m : MethodId} {args : Array Value} {below : List Frame} {meth : Method} {c : Code} {d : Nat} {h0 h' : qH} {o : qO}
variable {pc : Nat} {L st : List Value} {h : qH} {k : qK} {H : Heap} {locs : List Loc} {ls : Array Slot}
theorem x_cl {ci : Nat} (h : ci < 12) : ∃ q : vw_C, q_cl[ci]? = some q ∧ q_cl.getD ci ("", q_T0, 0) = q := by
  match ci, h with
  | 0, _ => exact ⟨_, rfl, rfl⟩
  | 1, _ => exact ⟨_, rfl, rfl⟩
  | 2, _ => exact ⟨_, rfl, rfl⟩
  | 3, _ => exact ⟨_, rfl, rfl⟩
  | 4, _ => exact ⟨_, rfl, rfl⟩
  | 5, _ => exact ⟨_, rfl, rfl⟩
  | 6, _ => exact ⟨_, rfl, rfl⟩
  | 7, _ => exact ⟨_, rfl, rfl⟩
  | 8, _ => exact ⟨_, rfl, rfl⟩
  | 9, _ => exact ⟨_, rfl, rfl⟩
  | 10, _ => exact ⟨_, rfl, rfl⟩
  | 11, _ => exact ⟨_, rfl, rfl⟩
  | n + 12, h => exact absurd h (by omega)
/-- an object's cell number is not one of the two first -/
theorem x_o2 {a ci : Nat} {fs : List Value} (hW : x_W X h H) (he : h[a]? = some (.inr (ci, fs))) : 2 ≤ a := by
  rcases a with _ | _ | a
  · rw [hW.2.2.1] at he
    cases he
  · rw [hW.2.2.2.1] at he
    cases he
  · omega
theorem x_tyo {ds : String} {t : Nat} {ty : FieldType} (h : q_tyOK ds t = true) (hd : parseFieldDescriptor ds = some ty) : (t = 1 ∧ ty = .int) ∨ ((t = 0 ∨ t = 2) ∧ ((∃ n, ty = .object n) ∨ ∃ u, ty = .array u)) := by
  unfold q_tyOK at h
  rw [hd] at h
  cases ty <;> (rcases t with _ | _ | _ | t) <;> first | exact Bool.noConfusion (show false = true from h) | exact Or.inl ⟨rfl, rfl⟩ | exact Or.inr ⟨Or.inl rfl, Or.inl ⟨_, rfl⟩⟩ | exact Or.inr ⟨Or.inl rfl, Or.inr ⟨_, rfl⟩⟩ | exact Or.inr ⟨Or.inr rfl, Or.inl ⟨_, rfl⟩⟩ | exact Or.inr ⟨Or.inr rfl, Or.inr ⟨_, rfl⟩⟩
/-- getfield: the value is there -/
theorem so_getV {j ci f t kd a : Nat} {fs : List Value} {v : Value} {rest : List Value} {Q : State → Prop} {cells slots : Nat} (E : x_E X l M y bytes ret p R s m args meth c d h0 h') (hI : x_I X M.2.2.2.1 s h0 h H locs ls L) (hd : decode bytes pc = .ok (.getfield j, 3)) (hk : q_lk M j = some (kd, ci, f, t)) (hkd : kd = 0 ∨ kd = 1) (he : h[a]? = some (.inr (ci, fs))) (hv : fs[f]? = some v)
    (kk : W p l e R s m args below meth c H locs cells slots Q (F0 m (pc + 3) ls (x_cv X v :: rest))) : W p l e R s m args below meth c H locs cells slots Q (F0 m pc ls (x_cv X (.ref a) :: rest)) := by
  obtain ⟨hx, hb, hml, hown, hts, hlocks, hr, hG, hR, hC, htr, hsz, hrow, hln, hnm, hlo, hhd, hth⟩ := E
  obtain ⟨hW, hS, hL, hq⟩ := hI
  have ha := x_o2 hW he
  have hat := x_at hW ha he
  have hok := hlo _ (q_look hk)
  have hv' : (fs.map (x_cv X))[f]? = some (x_cv X v) := by rw [List.getElem?_map, hv]; rfl
  rcases hkd with rfl | rfl
  · simp only [q_lkOK, Bool.and_eq_true, decide_eq_true_eq] at hok
    obtain ⟨⟨h1, h2⟩, h3⟩ := hok
    obtain ⟨q, hq1, hq2⟩ := x_cl h1
    obtain ⟨C, T, N⟩ := q
    rw [hq2] at h2
    obtain ⟨c1, c2, c3, c4, c5⟩ := q_cAll hq1 h1
    have hw := x_ws (args := args) (s := s) hts hln hk rfl
    have hw : (Cond.fieldLink y.cls j C (T f).2.1 (T f).2.2.1).before args s = true := by
      have e1 : q_lw y.cls j (0, ci, f, t) = Cond.fieldLink y.cls j C (T f).2.1 (T f).2.2.1 := by
        simp only [q_lw, q_cn, q_ft, hq2]
      rw [← e1]; exact hw
    exact va_get hx hb hts c1 hown hG.1 (xp_1 hat) 0 rfl hq1 f h2 hw (fun x hx => by rw [c3 f h2] at hx; exact hx) hv' hd kk
  · simp only [q_lkOK, Bool.and_eq_true, decide_eq_true_eq] at hok
    obtain ⟨⟨h1, h2⟩, h3⟩ := hok
    obtain ⟨q, hq1, hq2⟩ := x_cl h1
    obtain ⟨C, T, N⟩ := q
    rw [hq2] at h2
    obtain ⟨c1, c2, c3, c4, c5⟩ := q_cAll hq1 h1
    have hw := x_nw (s := s) hG.2.1 hln hk rfl
    have hw : (Cond.fieldLinkNest y.cls j C (T f).2.1 (T f).2.2.1 "WinkBank").before args s = true := by
      have e1 : q_lw y.cls j (1, ci, f, t) = Cond.fieldLinkNest y.cls j C (T f).2.1 (T f).2.2.1 "WinkBank" := by
        simp only [q_lw, q_cn, q_ft, hq2]
      rw [e1] at hw
      exact va_Nw.use rfl hw
    exact va_getN hx hb hts c1 hown hG.1 (xp_1 hat) 0 rfl hq1 f h2 hw (fun x hx => by rw [c3 f h2] at hx; exact hx) hv' hd kk
/-- putfield -/
theorem so_putV {j ci f t kd a : Nat} {fs : List Value} {v : Value} {rest : List Value} {Q : State → Prop} {cells slots : Nat} (E : x_E X l M y bytes ret p R s m args meth c d h0 h') (hI : x_I X M.2.2.2.1 s h0 h H locs ls L) (hm : M.1.lookup pc = some (.putfield j, 3)) (hk : q_lk M j = some (kd, ci, f, t)) (hkd : kd = 0 ∨ kd = 1) (he : h[a]? = some (.inr (ci, fs))) (hf : f < fs.length) (hv : (t = 1 ∧ ∃ x, v = .int x) ∨ ((t = 0 ∨ t = 2) ∧ (v = .null ∨ ∃ b, v = .ref b)))
    (kk : ∀ (H1 : Heap) (locs1 : List Loc), x_I X M.2.2.2.1 s h0 (h.set a (.inr (ci, fs.set f v))) H1 locs1 ls L → W p l e R s m args below meth c H1 locs1 cells slots Q (F0 m (pc + 3) ls rest)) : W p l e R s m args below meth c H locs cells slots Q (F0 m pc ls (x_cv X v :: x_cv X (.ref a) :: rest)) := by
  obtain ⟨hx, hb, hml, hown, hts, hlocks, hr, hG, hR, hC, htr, hsz, hrow, hln, hnm, hlo, hhd, hth⟩ := E
  obtain ⟨hW, hS, hL, hq⟩ := hI
  have ha := x_o2 hW he
  have hat := x_at hW ha he
  have hok := hlo _ (q_look hk)
  obtain ⟨hd, -, hic⟩ := hrow _ (q_look hm)
  have hset : (fs.map (x_cv X)).set f (x_cv X v) = (fs.set f v).map (x_cv X) := by rw [List.map_set]
  have hl : f < (fs.map (x_cv X)).length := by rw [List.length_map]; exact hf
  have fin : ∀ (H1 : Heap) (locs1 : List Loc), H1.size = H.size → (∀ q : Nat, q ≠ x_ad X a → H1[q]? = H[q]?) → va_at (x_D X) q_cl (x_ad X a, .inr (ci, (fs.map (x_cv X)).set f (x_cv X v))) H1 → va_S (x_A X) s.heap H1 locs1 → W p l e R s m args below meth c H1 locs1 cells slots Q (F0 m (pc + 3) ls rest) := by
    intro H1 locs1 z oq hat1 hS1
    rw [hset] at hat1
    exact kk H1 locs1 ⟨x_upd hW ha he z oq hat1, hS1, hL, hq.tr (q_le_set he q_se_set)⟩
  have vals : ∀ ty : FieldType, ((t = 1 ∧ ty = .int) ∨ ((t = 0 ∨ t = 2) ∧ ((∃ n, ty = .object n) ∨ ∃ u, ty = .array u))) → narrow ty (x_cv X v) = x_cv X v ∧ fits ty (x_cv X v) = true := by
    intro ty hty
    rcases hv with ⟨h1, x, rfl⟩ | ⟨h1, hv⟩
    · rcases hty with ⟨-, rfl⟩ | ⟨h2, -⟩
      · exact ⟨rfl, rfl⟩
      · omega
    · rcases hty with ⟨h2, -⟩ | ⟨-, hty⟩
      · omega
      · rcases hv with rfl | ⟨b, rfl⟩ <;> rcases hty with ⟨n, rfl⟩ | ⟨u, rfl⟩ <;> exact ⟨rfl, rfl⟩
  rcases hkd with rfl | rfl
  · simp only [q_lkOK, Bool.and_eq_true, decide_eq_true_eq] at hok
    obtain ⟨⟨h1, h2⟩, h3⟩ := hok
    obtain ⟨q, hq1, hq2⟩ := x_cl h1
    obtain ⟨C, T, N⟩ := q
    have hqf : q_ft ci f = T f := by simp only [q_ft, hq2]
    have hqn : q_cn ci = C := by simp only [q_cn, hq2]
    rw [hq2] at h2
    obtain ⟨c1, c2, c3, c4, ty, fs0, c5, c6, c7, c8, c9⟩ := q_cAll hq1 h1
    have hw := x_ws (args := args) (s := s) hts hln hk rfl
    have hw : (Cond.fieldLink y.cls j C (T f).2.1 (T f).2.2.1).before args s = true := by
      have e1 : q_lw y.cls j (0, ci, f, t) = Cond.fieldLink y.cls j C (T f).2.1 (T f).2.2.1 := by
        simp only [q_lw, q_cn, q_ft, hq2]
      rw [← e1]; exact hw
    rw [hqf] at h3
    obtain ⟨v1, v2⟩ := vals (ty f) (x_tyo h3 (c5 f h2))
    have hic : ((!(T f).2.2.2) || (decide (y.name = "<init>") && decide (y.cls = C))) = true := by
      have : q_icd M y ret pc (.putfield j) = ((!(q_ft ci f).2.2.2) || (decide (y.name = "<init>") && decide (y.cls = q_cn ci))) := by
        simp only [q_icd, hk]
      rw [this, hqf, hqn] at hic
      exact hic
    cases hfin : (T f).2.2.2 with
    | false => exact xr_put hx hb hts c1 ty c5 c4 hown hG.1 (x_adA ha) hS hat hq1 f h2 hw (fun x hx => by rw [c3 f h2] at hx; exact hx) hfin (c5 f h2) v1 v2 hl hd fin
    | true =>
      rw [hfin] at hic
      simp only [Bool.not_true, Bool.false_or, Bool.and_eq_true, decide_eq_true_eq] at hic
      exact xr_putF hx hb hts c1 ty c5 c4 hown hG.1 (x_adA ha) hS hat hq1 f h2 hw (fun x hx => by rw [c3 f h2] at hx; exact hx) hfin (hnm.trans hic.1) ((c3 f h2).trans hic.2.symm) (c5 f h2) v1 v2 hl hd fin
  · simp only [q_lkOK, Bool.and_eq_true, decide_eq_true_eq] at hok
    obtain ⟨⟨h1, h2⟩, h3⟩ := hok
    obtain ⟨q, hq1, hq2⟩ := x_cl h1
    obtain ⟨C, T, N⟩ := q
    have hqf : q_ft ci f = T f := by simp only [q_ft, hq2]
    rw [hq2] at h2
    obtain ⟨c1, c2, c3, c4, ty, fs0, c5, c6, c7, c8, c9⟩ := q_cAll hq1 h1
    have hw := x_nw (s := s) hG.2.1 hln hk rfl
    have hw : (Cond.fieldLinkNest y.cls j C (T f).2.1 (T f).2.2.1 "WinkBank").before args s = true := by
      have e1 : q_lw y.cls j (1, ci, f, t) = Cond.fieldLinkNest y.cls j C (T f).2.1 (T f).2.2.1 "WinkBank" := by
        simp only [q_lw, q_cn, q_ft, hq2]
      rw [e1] at hw
      exact va_Nw.use rfl hw
    rw [hqf] at h3
    obtain ⟨v1, v2⟩ := vals (ty f) (x_tyo h3 (c5 f h2))
    have hfin : (T f).2.2.2 = false := by
      have : q_icd M y ret pc (.putfield j) = !(q_ft ci f).2.2.2 := by
        simp only [q_icd, hk]
      rw [this, hqf] at hic
      simpa using hic
    exact xr_putN hx hb hts c1 ty c5 c4 hown hG.1 (x_adA ha) hS hat hq1 f h2 hw (fun x hx => by rw [c3 f h2] at hx; exact hx) hfin (c5 f h2) v1 v2 hl hd fin
end SOUND2
