--DEPS 75.trial 72.would 80.fits
/-! The fewest flicks into a cup. -/
abbrev zQ : Type := (Int → Int) × (Int → Int) × (Int → Int) × Int × Int × Int
def unW (R : zR) (s : Int → Int) (w x : Int) : Int := if x = s w then s (10 + w) else many R s x
def fW (R : zR) (F : zF) (s : Int → Int) (w x p : Int) : Int := fl R F s w p (unW R s w x) x
def gW (R : zR) (t : zQ) (to mn st : Int) : zQ := if to < 0 ∨ rF R ≤ to then t else if cupAt R to ≠ -1 then (t.1, t.2.1, t.2.2.1, t.2.2.2.1, mn, st) else if t.1 to ≠ -1 then t else (up t.1 to mn, up t.2.1 to st, up t.2.2.1 t.2.2.2.1 to, t.2.2.2.1 + 1, t.2.2.2.2.1, t.2.2.2.2.2)
def wk (R : zR) (F : zF) (s : Int → Int) (w x p h : Int) (t : zQ) : zQ := if t.2.2.2.2.1 ≠ -1 ∨ fW R F s w x p = 0 then t else gW R t (if h = 0 then x + fW R F s w x p else x - fW R F s w x p) (t.1 x + 1) (if t.2.1 x = -1 then 10 * p + h else t.2.1 x)
def wr (R : zR) (F : zF) (s : Int → Int) (w x : Int) : Nat → zQ → zQ
  | 0, t => t
  | k + 1, t => wk R F s w x ((k : Int) / 2 + 1) ((k : Int) - (k : Int) / 2 * 2) (wr R F s w x k t)
def wb (R : zR) (F : zF) (s : Int → Int) (w : Int) : Nat → Nat → zQ → zQ
  | 0, _, t => t
  | f + 1, i, t => if (i : Int) < t.2.2.2.1 ∧ t.2.2.2.2.1 = -1 then wb R F s w f (i + 1) (wr R F s w (t.2.2.1 i) 18 t) else t
def w0 (x : Int) : zQ := (fun y => if y = x then 0 else -1, fun _ => -1, fun _ => x, 1, -1, -1)
def wV (R : zR) (h : Int) (t : zQ) : Prop := (∀ x : Int, 0 ≤ x → x < 30 → t.1 x = -1 ∨ (0 ≤ t.1 x ∧ t.1 x < t.2.2.2.1)) ∧ t.2.2.2.1 = cnt 30 (fun x => decide (t.1 x ≠ -1)) ∧ (∀ i : Int, 0 ≤ i → i < t.2.2.2.1 → 0 ≤ t.2.2.1 i ∧ t.2.2.1 i < rF R ∧ t.1 (t.2.2.1 i) ≠ -1) ∧ (∀ x : Int, 0 ≤ x → x < 30 → t.1 x ≠ -1 → (t.2.1 x = -1 ↔ x = h) ∧ (t.2.1 x = -1 ∨ 10 ≤ t.2.1 x) ∧ t.2.1 x ≤ 100) ∧ -1 ≤ t.2.2.2.2.1 ∧ t.2.2.2.2.1 ≤ 31 ∧ (t.2.2.2.2.1 = -1 → t.2.2.2.2.2 = -1) ∧ t.1 h ≠ -1 ∧ 0 ≤ h ∧ h < rF R ∧ rF R ≤ 30
theorem wV.m {R : zR} {h : Int} {t : zQ} (v : wV R h t) : 1 ≤ t.2.2.2.1 ∧ t.2.2.2.1 ≤ 30 := by
  obtain ⟨v1, v2, -, -, -, -, -, v8, v9, v10⟩ := v
  have := cnt_hi 30 fun x => decide (t.1 x ≠ -1)
  have h3 := v1 h v9 (by omega)
  omega
theorem wV.g {R : zR} {h : Int} {t : zQ} {to mn st : Int} (v : wV R h t) (hR : wR R) (h0 : t.2.2.2.2.1 = -1) (h1 : 1 ≤ mn ∧ mn ≤ t.2.2.2.1) (h2 : 10 ≤ st ∧ st ≤ 100) : wV R h (gW R t to mn st) ∧ (gW R t to mn st).1 = (gW R t to mn st).1 := by
  refine ⟨?_, rfl⟩
  have hf := hR.2.2.2.2.1
  have vm := v.m
  obtain ⟨v1, v2, v3, v4, v5, v6, v7, v8, v9, v10⟩ := v
  unfold gW
  split
  · exact ⟨v1, v2, v3, v4, v5, v6, v7, v8, v9, v10⟩
  · rename_i q1
    split
    · exact ⟨v1, v2, v3, v4, by dsimp only; omega, by dsimp only; omega, fun h => by dsimp only at h; omega, v8, v9, v10⟩
    · split
      · exact ⟨v1, v2, v3, v4, v5, v6, v7, v8, v9, v10⟩
      · rename_i q2
        have q2 : t.1 to = -1 := Decidable.of_not_not q2
        have hne : to ≠ h := fun e => v8 (by rw [← e]; exact q2)
        have hc : cnt 30 (fun x : Nat => decide (up t.1 to mn x ≠ -1)) = t.2.2.2.1 + 1 := by
          obtain ⟨k, hk⟩ := Int.eq_ofNat_of_zero_le (show 0 ≤ to by omega)
          have := cnt_ch (n := 30) (k := k) (p := fun x : Nat => decide (up t.1 to mn x ≠ -1)) (q := fun x : Nat => decide (t.1 x ≠ -1)) (by omega) (fun j hj hn => by
            show decide (up t.1 to mn j ≠ -1) = decide (t.1 j ≠ -1)
            rw [up_n (by omega)])
          have x1 : (decide (t.1 (k : Int) ≠ -1)) = false := by rw [← hk, q2]; rfl
          have x2 : (decide (up t.1 to mn (k : Int) ≠ -1)) = true := by
            rw [← hk, up_s]; exact decide_eq_true (by omega)
          simp only [x1, x2, if_true, Bool.false_eq_true, if_false] at this
          rw [v2]; omega
        refine ⟨fun x x0 x1 => ?_, hc.symm, fun i i0 i1 => ?_, fun x x0 x1 hx => ?_, by dsimp only; omega, by dsimp only; omega, fun _ => v7 h0, ?_, v9, v10⟩
        · dsimp only
          by_cases e : x = to
          · subst e; rw [up_s]; omega
          · rw [up_n e]; have := v1 x x0 x1; omega
        · dsimp only at i1 ⊢
          by_cases e : i = t.2.2.2.1
          · subst e; rw [up_s, up_s]; omega
          · rw [up_n e]
            have := v3 i i0 (by omega)
            refine ⟨this.1, this.2.1, ?_⟩
            rw [up_n (fun e2 => this.2.2 (by rw [e2]; exact q2))]; exact this.2.2
        · dsimp only at hx ⊢
          by_cases e : x = to
          · subst e; rw [up_s]; exact ⟨⟨fun q => by omega, fun q => absurd q hne⟩, by omega, by omega⟩
          · rw [up_n e] at hx ⊢; exact v4 x x0 x1 hx
        · dsimp only
          rw [up_n (fun e => hne e.symm)]; exact v8
theorem gW_k {R : zR} {t : zQ} {to mn st x : Int} (hx : t.1 x ≠ -1) : (gW R t to mn st).1 x = t.1 x ∧ (gW R t to mn st).2.1 x = t.2.1 x := by
  unfold gW
  split
  · exact ⟨rfl, rfl⟩
  · split
    · exact ⟨rfl, rfl⟩
    · split
      · exact ⟨rfl, rfl⟩
      · rename_i q2
        have q2 : t.1 to = -1 := Decidable.of_not_not q2
        have : x ≠ to := fun e => hx (by rw [e]; exact q2)
        dsimp only
        rw [up_n this, up_n this]; exact ⟨rfl, rfl⟩
section PW
variable {R : zR} {F : zF} {s : Int → Int} {w h : Int}
theorem wV.k {t : zQ} {x p q : Int} (v : wV R h t) (hR : wR R) (hx0 : 0 ≤ x ∧ x < 30) (hx : t.1 x ≠ -1) (hp : 1 ≤ p ∧ p ≤ 9) (hq : 0 ≤ q ∧ q ≤ 1) : wV R h (wk R F s w x p q t) ∧ (wk R F s w x p q t).1 x = t.1 x ∧ (wk R F s w x p q t).2.1 x = t.2.1 x := by
  unfold wk
  split
  · exact ⟨v, rfl, rfl⟩
  · rename_i c
    have a := v.1 x hx0.1 hx0.2
    have b := v.2.2.2.1 x hx0.1 hx0.2 hx
    exact ⟨(v.g hR (by omega) (by omega) (by split <;> omega)).1, gW_k hx⟩
theorem wV.r {t : zQ} {x : Int} (v : wV R h t) (hR : wR R) (hx0 : 0 ≤ x ∧ x < 30) (hx : t.1 x ≠ -1) : ∀ k : Nat, k ≤ 18 → wV R h (wr R F s w x k t) ∧ (wr R F s w x k t).1 x = t.1 x ∧ (wr R F s w x k t).2.1 x = t.2.1 x
  | 0, _ => ⟨v, rfl, rfl⟩
  | k + 1, hk => by
    obtain ⟨i1, i2, i3⟩ := wV.r v hR hx0 hx k (by omega)
    have := i1.k (F := F) (s := s) (w := w) (p := (k : Int) / 2 + 1) (q := (k : Int) - (k : Int) / 2 * 2) hR hx0 (by rw [i2]; exact hx) (by omega) (by omega)
    exact ⟨this.1, this.2.1.trans i2, this.2.2.trans i3⟩
end PW
section CW
variable {d : Nat} {I : Nat → Nat → Int} {A : Nat → Int → Int} {W : qWt} {R : zR} {F : zF} {s : Int → Int}
/-- the class's rows hold the state -/
def cW (t : zQ) (I : Nat → Nat → Int) (A : Nat → Int → Int) : Prop := (∀ x : Int, 0 ≤ x → x < 30 → A 47 x = t.1 x) ∧ (∀ x : Int, 0 ≤ x → x < 30 → t.1 x ≠ -1 → A 48 x = t.2.1 x) ∧ (∀ i : Int, 0 ≤ i → i < t.2.2.2.1 → A 46 i = t.2.2.1 i) ∧ I 45 8 = t.2.2.2.1 ∧ I 45 9 = t.2.2.2.2.1 ∧ I 45 10 = t.2.2.2.2.2
abbrev wK : List (Nat × Nat) := [(45, 8), (45, 9), (45, 10)]
abbrev wL : List Nat := [46, 47, 48]
theorem cW.t {t : zQ} {I I' : Nat → Nat → Int} {A A' : Nat → Int → Int} (h : cW t I A) (f : fi [(36, 7)] I I') (g : fr [22, 23] A A') : cW t I' A' := by
  unfold cW
  rw [g 47 rfl, g 48 rfl, g 46 rfl, f 45 8 rfl, f 45 9 rfl, f 45 10 rfl]; exact h
theorem c_reach {t : zQ} {x mn st h : Int} (hd : 1 ≤ d) (hv : wV R h t) (hW : cW t I A) (hx : 0 ≤ x ∧ x < 30) (hn : t.1 x = -1) (hm : t.2.2.2.1 < 30) : ∃ I' A', fi wK I I' ∧ fr wL A A' ∧ cW (up t.1 x mn, up t.2.1 x st, up t.2.2.1 t.2.2.2.1 x, t.2.2.2.1 + 1, t.2.2.2.2.1, t.2.2.2.2.2) I' A' ∧ q_call q_MT d 6 [.ref 45, .int (zI x), .int (zI mn), .int (zI st)] (zM I A W) = some (.inl none, zM I' A' W) := by
  obtain ⟨d, rfl⟩ : ∃ e, d = e + 1 := ⟨d - 1, by omega⟩
  obtain ⟨a1, a2, a3, a4, a5, a6⟩ := hW
  have e47 : A 47 x = -1 := by rw [a1 x hx.1 hx.2]; exact hn
  have vm := hv.m
  refine ⟨u2 I 45 8 (t.2.2.2.1 + 1), ua (ua (ua A 47 (up (A 47) x mn)) 48 (up (A 48) x st)) 46 (up (A 46) t.2.2.2.1 x), fi.refl.f rfl, ((fr.refl.a rfl).a rfl).a rfl, ⟨fun y y0 y1 => ?_, fun y y0 y1 hy => ?_, fun i i0 i1 => ?_, u2_s, ?_, ?_⟩, ?_⟩
  · show up (A 47) x mn y = up t.1 x mn y
    unfold up
    split
    · rfl
    · exact a1 y y0 y1
  · show up (A 48) x st y = up t.2.1 x st y
    dsimp only at hy
    by_cases e : y = x
    · subst e; rw [up_s, up_s]
    · rw [up_n e] at hy
      rw [up_n e, up_n e]; exact a2 y y0 y1 hy
  · show up (A 46) _ x i = up t.2.2.1 _ x i
    dsimp only at i1
    by_cases e : i = t.2.2.2.1
    · subst e; rw [up_s, up_s]
    · rw [up_n e, up_n e]; exact a3 i i0 (by omega)
  · rw [u2_f (by decide)]; exact a5
  · rw [u2_f (by decide)]; exact a6
  · rw [cl_X0_reach]
    simp (implicitDefEqProofs := false) (disch := omega) only [↓rI_s, ↓rV_s, ↓rI_e, ↓rV_e, zc_eq, zc_ne, zc_lt, zc_ge, zc_gt, zc_le, zlt_t, zlt_f, zle_t, zle_f, zeq_t, zeq_f, lz, zadd, zsub, zmul, zneg, zb_e0, zb_e1, boo0, boo1, ua_s, ua_n, ua_ua, up_s, u2_s, u2_f, u2_c, u2_u2, Int.natCast_add, Int.zero_add, Int.add_zero, ↓reduceIte, ne_eq, not_true_eq_false, not_false_eq_true, Int.natCast_one, ↓k_X0_reach_0, ↓k_X0_reach_56, ↓zg_45_4, zl_47, zs_47, ↓zn_47, ↓zg_45_8, ↓zg_45_3, zl_46, zs_46, ↓zn_46, ↓zg_45_5, zl_48, zs_48, ↓zn_48, zp_45_8, e47, a4]
theorem cW.p {t : zQ} {I : Nat → Nat → Int} {A : Nat → Int → Int} {mn st : Int} (h : cW t I A) : cW (t.1, t.2.1, t.2.2.1, t.2.2.2.1, mn, st) (u2 (u2 I 45 9 mn) 45 10 st) A := ⟨h.1, h.2.1, h.2.2.1, by rw [u2_f (by decide), u2_f (by decide)]; exact h.2.2.2.1, by rw [u2_f (by decide), u2_s], u2_s⟩
theorem c_goOn {t : zQ} {to mn st h : Int} (hd : 2 ≤ d) (hR : cR R I A) (hv : wV R h t) (hW : cW t I A) (hto : -100 ≤ to ∧ to ≤ 100) : ∃ I' A', fi wK I I' ∧ fr wL A A' ∧ cW (gW R t to mn st) I' A' ∧ q_call q_MT d 8 [.ref 45, .int (zI to), .int (zI mn), .int (zI st)] (zM I A W) = some (.inl none, zM I' A' W) := by
  obtain ⟨d, rfl⟩ : ∃ e, d = e + 1 := ⟨d - 1, by omega⟩
  have hf := hR.1.2.2.2.2.1
  have hf1 := hR.1.2.2.2.1
  have hc4 := hR.1.2.2.1
  have e3 := hR.2.2.2.2.1
  have cl := cupAt_lo R to
  have chh := cupAt_hi R to
  rw [cl_X0_goOn]
  unfold gW
  by_cases q1 : to < 0 ∨ rF R ≤ to
  · rw [if_pos q1]
    refine ⟨I, A, fi.refl, fr.refl, hW, ?_⟩
    by_cases q : to < 0
    · simp (implicitDefEqProofs := false) (disch := omega) only [↓rI_s, ↓rV_s, ↓rI_e, ↓rV_e, zc_eq, zc_ne, zc_lt, zc_ge, zc_gt, zc_le, zlt_t, zlt_f, zle_t, zle_f, zeq_t, zeq_f, lz, zadd, zsub, zmul, zneg, zb_e0, zb_e1, boo0, boo1, ua_s, ua_n, ua_ua, up_s, u2_s, u2_f, u2_c, u2_u2, Int.natCast_add, Int.zero_add, Int.add_zero, ↓reduceIte, ne_eq, not_true_eq_false, not_false_eq_true, Int.natCast_one, ↓k_X0_goOn_0, ↓k_X0_goOn_15, ↓k_X0_goOn_48, ↓zg_45_0, ↓zg_5_3, ↓mc_5, ↓mc_12, ↓mc_45, zp_45_9, zp_45_10]
    · simp (implicitDefEqProofs := false) (disch := omega) only [↓rI_s, ↓rV_s, ↓rI_e, ↓rV_e, zc_eq, zc_ne, zc_lt, zc_ge, zc_gt, zc_le, zlt_t, zlt_f, zle_t, zle_f, zeq_t, zeq_f, lz, zadd, zsub, zmul, zneg, zb_e0, zb_e1, boo0, boo1, ua_s, ua_n, ua_ua, up_s, u2_s, u2_f, u2_c, u2_u2, Int.natCast_add, Int.zero_add, Int.add_zero, ↓reduceIte, ne_eq, not_true_eq_false, not_false_eq_true, Int.natCast_one, ↓k_X0_goOn_0, ↓k_X0_goOn_15, ↓k_X0_goOn_48, ↓zg_45_0, ↓zg_5_3, ↓mc_5, ↓mc_12, ↓mc_45, zp_45_9, zp_45_10, e3]
  · rw [if_neg q1]
    have ec := fun kx k => c_cupAt (x := to) (I := I) (A := A) (W := W) (kx := kx) (k := k) (show 1 ≤ d by omega) hR (by omega)
    by_cases q2 : cupAt R to = -1
    · rw [if_neg (fun q => q q2)]
      by_cases q3 : t.1 to = -1
      · rw [if_neg (fun q => q q3)]
        have vm := hv.m
        have hm : t.2.2.2.1 < 30 := by
          by_cases z : t.2.2.2.1 < 30
          · exact z
          · exfalso
            have v2 := hv.2.1
            obtain ⟨k, hk⟩ := Int.eq_ofNat_of_zero_le (show 0 ≤ to by omega)
            have := cnt_ch (n := 30) (k := k) (p := fun x : Nat => decide (t.1 x ≠ -1)) (q := fun _ => true) (by omega)
            have h29 : ∀ n : Nat, k < n → cnt n (fun x : Nat => decide (t.1 x ≠ -1)) ≤ n - 1 := by
              intro n
              induction n with
              | zero => intro h; omega
              | succ n ih =>
                intro hn
                by_cases e : k = n
                · subst e
                  rw [cnt_f (by rw [← hk, q3]; decide)]
                  have := cnt_hi k fun x : Nat => decide (t.1 x ≠ -1)
                  omega
                · have := ih (by omega)
                  show cnt n _ + _ ≤ _
                  split <;> omega
            have := h29 30 (by omega)
            omega
        obtain ⟨I', A', f, g, h', e⟩ := c_reach (mn := mn) (st := st) (W := W) (show 1 ≤ d by omega) hv hW (show 0 ≤ to ∧ to < 30 by omega) q3 hm
        refine ⟨I', A', f, g, h', ?_⟩
        simp (implicitDefEqProofs := false) (disch := omega) only [↓rI_s, ↓rV_s, ↓rI_e, ↓rV_e, zc_eq, zc_ne, zc_lt, zc_ge, zc_gt, zc_le, zlt_t, zlt_f, zle_t, zle_f, zeq_t, zeq_f, lz, zadd, zsub, zmul, zneg, zb_e0, zb_e1, boo0, boo1, ua_s, ua_n, ua_ua, up_s, u2_s, u2_f, u2_c, u2_u2, Int.natCast_add, Int.zero_add, Int.add_zero, ↓reduceIte, ne_eq, not_true_eq_false, not_false_eq_true, Int.natCast_one, ↓k_X0_goOn_0, ↓zg_45_0, ↓zg_5_3, e3, ↓mc_5, ↓ec, ↓mc_45, e, ↓k_X0_goOn_48]
      · rw [if_pos q3]
        have e47 : A 47 to = t.1 to := hW.1 to (by omega) (by omega)
        have vb := hv.1 to (by omega) (by omega)
        have vm := hv.m
        have er : q_call q_MT d 6 [.ref 45, .int (zI to), .int (zI mn), .int (zI st)] (zM I A W) = some (.inl none, zM I A W) := by
          obtain ⟨e, rfl⟩ : ∃ e, d = e + 1 := ⟨d - 1, by omega⟩
          rw [cl_X0_reach]
          simp (implicitDefEqProofs := false) (disch := omega) only [↓rI_s, ↓rV_s, ↓rI_e, ↓rV_e, zc_eq, zc_ne, zc_lt, zc_ge, zc_gt, zc_le, zlt_t, zlt_f, zle_t, zle_f, zeq_t, zeq_f, lz, zadd, zsub, zmul, zneg, zb_e0, zb_e1, boo0, boo1, ua_s, ua_n, ua_ua, up_s, u2_s, u2_f, u2_c, u2_u2, Int.natCast_add, Int.zero_add, Int.add_zero, ↓reduceIte, ne_eq, not_true_eq_false, not_false_eq_true, Int.natCast_one, ↓k_X0_reach_0, ↓k_X0_reach_56, ↓zg_45_4, zl_47, zs_47, ↓zn_47, ↓zg_45_8, ↓zg_45_3, zl_46, zs_46, ↓zn_46, ↓zg_45_5, zl_48, zs_48, ↓zn_48, zp_45_8, e47]
        refine ⟨I, A, fi.refl, fr.refl, hW, ?_⟩
        simp (implicitDefEqProofs := false) (disch := omega) only [↓rI_s, ↓rV_s, ↓rI_e, ↓rV_e, zc_eq, zc_ne, zc_lt, zc_ge, zc_gt, zc_le, zlt_t, zlt_f, zle_t, zle_f, zeq_t, zeq_f, lz, zadd, zsub, zmul, zneg, zb_e0, zb_e1, boo0, boo1, ua_s, ua_n, ua_ua, up_s, u2_s, u2_f, u2_c, u2_u2, Int.natCast_add, Int.zero_add, Int.add_zero, ↓reduceIte, ne_eq, not_true_eq_false, not_false_eq_true, Int.natCast_one, ↓k_X0_goOn_0, ↓zg_45_0, ↓zg_5_3, e3, ↓mc_5, ↓ec, ↓mc_45, er, ↓k_X0_goOn_48]
    · rw [if_pos q2]
      refine ⟨_, A, (fi.refl.f rfl).f rfl, fr.refl, hW.p, ?_⟩
      simp (implicitDefEqProofs := false) (disch := omega) only [↓rI_s, ↓rV_s, ↓rI_e, ↓rV_e, zc_eq, zc_ne, zc_lt, zc_ge, zc_gt, zc_le, zlt_t, zlt_f, zle_t, zle_f, zeq_t, zeq_f, lz, zadd, zsub, zmul, zneg, zb_e0, zb_e1, boo0, boo1, ua_s, ua_n, ua_ua, up_s, u2_s, u2_f, u2_c, u2_u2, Int.natCast_add, Int.zero_add, Int.add_zero, ↓reduceIte, ne_eq, not_true_eq_false, not_false_eq_true, Int.natCast_one, ↓k_X0_goOn_0, ↓zg_45_0, ↓zg_5_3, e3, ↓mc_5, ↓ec, ↓zp_45_9, ↓zp_45_10, ↓k_X0_goOn_48]
/-- what the law sees of the cell x -/
def seeW (R : zR) (s : Int → Int) (w x : Int) (g : Int → Int) : Prop := ∀ j : Int, 1 ≤ j → j < 9 → g j = seeF 0 (rS R w) (rN R) (s 46) (unW R s w x) (s (20 + w)) x (s 45) (s (40 + rO R w)) j
theorem c_fBy {w x p : Int} (hd : 2 ≤ d) (hL : cL F I A) (hs : seeW R s w x (A 23)) : ∃ A', fr [22, 23] A A' ∧ seeW R s w x (A' 23) ∧ q_call q_MT d 72 [.ref 19, .int (zI p)] (zM I A W) = some (.inl (some (.int (zI (fW R F s w x p)))), zM I A' W) := by
  obtain ⟨A', f, h23, e⟩ := c_flightBy (p := p) (W := W) hd hL
  refine ⟨A', f, fun j j0 j1 => by rw [h23, up_n (by omega)]; exact hs j j0 j1, ?_⟩
  rw [e]
  refine rz (hL.w.2 _ _ fun j j0 j1 => congrArg zI ?_)
  by_cases e0 : j = 0
  · subst e0; rfl
  · rw [up_n e0, hs j (by omega) j1]
    unfold seeF
    rw [if_neg e0, if_neg e0]
theorem fW_b {w x p : Int} (hF : wF F) : 0 ≤ fW R F s w x p ∧ fW R F s w x p ≤ 60 := hF.1 _
abbrev fL : List Nat := [22, 23, 46, 47, 48]
theorem c_how {w x p h : Int} {t : zQ} {l1 l6 : Value} (hd : 3 ≤ d) (hX : cX R F s I A) (hv : wV R h t) (hW : cW t I A) (hx : 0 ≤ x ∧ x < 30) (hx1 : t.1 x ≠ -1) (hp : 1 ≤ p ∧ p ≤ 9) (h0 : t.2.2.2.2.1 = -1) (hsee : seeW R s w x (A 23)) : ∃ I' A' l5 l6', fi wK I I' ∧ fr fL A A' ∧ seeW R s w x (A' 23) ∧ cW (wk R F s w x p 1 (wk R F s w x p 0 t)) I' A' ∧ q_run qm_X0_seekWayFrom (q_call q_MT d) 91 [.ref 45, l1, .int (zI x), .int (zI p), .int (zI (fW R F s w x p)), .int (zI 0), l6] [] (zM I A W) = q_run qm_X0_seekWayFrom (q_call q_MT d) 174 [.ref 45, l1, .int (zI x), .int (zI p), .int (zI (fW R F s w x p)), l5, l6'] [] (zM I' A' W) := by
  have hR := hX.1
  have hF := hX.2.2.2.w
  have fb := fW_b (R := R) (s := s) (w := w) (x := x) (p := p) hF
  have one : ∀ (q : Int) (t : zQ) (I : Nat → Nat → Int) (A : Nat → Int → Int) (l6 : Value), (q = 0 ∨ q = 1) → cX R F s I A → wV R h t → cW t I A → t.1 x ≠ -1 → t.2.2.2.2.1 = -1 → fW R F s w x p ≠ 0 → ∃ I' A' l6', fi wK I I' ∧ fr wL A A' ∧ cW (wk R F s w x p q t) I' A' ∧ q_run qm_X0_seekWayFrom (q_call q_MT d) 91 [.ref 45, l1, .int (zI x), .int (zI p), .int (zI (fW R F s w x p)), .int (zI q), l6] [] (zM I A W) = q_run qm_X0_seekWayFrom (q_call q_MT d) 91 [.ref 45, l1, .int (zI x), .int (zI p), .int (zI (fW R F s w x p)), .int (zI (q + 1)), l6'] [] (zM I' A' W) := by
    intro q t I A l6 hq hX hv hW hx1 h0 hf0
    have ek : wk R F s w x p q t = gW R t (if q = 0 then x + fW R F s w x p else x - fW R F s w x p) (t.1 x + 1) (if t.2.1 x = -1 then 10 * p + q else t.2.1 x) := if_neg (by omega)
    have v4 := hv.2.2.2.1 x hx.1 hx.2 hx1
    have e48 := hW.2.1 x hx.1 hx.2 hx1
    have e47 := hW.1 x hx.1 hx.2
    have e9 := hW.2.2.2.2.1
    rw [h0] at e9
    obtain ⟨I', A', f, g, h', e⟩ := c_goOn (to := if q = 0 then x + fW R F s w x p else x - fW R F s w x p) (mn := t.1 x + 1) (st := if t.2.1 x = -1 then 10 * p + q else t.2.1 x) (W := W) (show 2 ≤ d by omega) hX.1 hv hW (by split <;> omega)
    rw [ek]
    refine ⟨I', A', .int (zI (if t.2.1 x = -1 then 10 * p + q else t.2.1 x)), f, g, h', ?_⟩
    rw [k_X0_seekWayFrom_91]
    by_cases c : t.2.1 x = -1
    · rw [if_pos c] at e ⊢
      rcases hq with rfl | rfl
      · rw [if_pos rfl, Int.add_zero] at e
        simp (implicitDefEqProofs := false) (disch := omega) only [↓rI_s, ↓rV_s, ↓rI_e, ↓rV_e, zc_eq, zc_ne, zc_lt, zc_ge, zc_gt, zc_le, zlt_t, zlt_f, zle_t, zle_f, zeq_t, zeq_f, lz, zadd, zsub, zmul, zneg, zb_e0, zb_e1, boo0, boo1, ua_s, ua_n, ua_ua, up_s, u2_s, u2_f, u2_c, u2_u2, Int.natCast_add, Int.zero_add, Int.add_zero, ↓reduceIte, ne_eq, not_true_eq_false, not_false_eq_true, Int.natCast_one, ↓zg_45_9, e9, ↓zg_45_5, zl_48, e48, c, ↓k_X0_seekWayFrom_136, ↓k_X0_seekWayFrom_155, ↓zg_45_4, zl_47, e47, ↓mc_45, e]
      · rw [if_neg (by decide)] at e
        simp (implicitDefEqProofs := false) (disch := omega) only [↓rI_s, ↓rV_s, ↓rI_e, ↓rV_e, zc_eq, zc_ne, zc_lt, zc_ge, zc_gt, zc_le, zlt_t, zlt_f, zle_t, zle_f, zeq_t, zeq_f, lz, zadd, zsub, zmul, zneg, zb_e0, zb_e1, boo0, boo1, ua_s, ua_n, ua_ua, up_s, u2_s, u2_f, u2_c, u2_u2, Int.natCast_add, Int.zero_add, Int.add_zero, ↓reduceIte, ne_eq, not_true_eq_false, not_false_eq_true, Int.natCast_one, ↓zg_45_9, e9, ↓zg_45_5, zl_48, e48, c, ↓k_X0_seekWayFrom_136, ↓k_X0_seekWayFrom_155, ↓zg_45_4, zl_47, e47, ↓mc_45, e]
    · rw [if_neg c] at e ⊢
      rcases hq with rfl | rfl
      · rw [if_pos rfl] at e
        simp (implicitDefEqProofs := false) (disch := omega) only [↓rI_s, ↓rV_s, ↓rI_e, ↓rV_e, zc_eq, zc_ne, zc_lt, zc_ge, zc_gt, zc_le, zlt_t, zlt_f, zle_t, zle_f, zeq_t, zeq_f, lz, zadd, zsub, zmul, zneg, zb_e0, zb_e1, boo0, boo1, ua_s, ua_n, ua_ua, up_s, u2_s, u2_f, u2_c, u2_u2, Int.natCast_add, Int.zero_add, Int.add_zero, ↓reduceIte, ne_eq, not_true_eq_false, not_false_eq_true, Int.natCast_one, ↓zg_45_9, e9, ↓zg_45_5, zl_48, e48, ↓k_X0_seekWayFrom_136, ↓k_X0_seekWayFrom_155, ↓zg_45_4, zl_47, e47, ↓mc_45, e]
      · rw [if_neg (by decide)] at e
        simp (implicitDefEqProofs := false) (disch := omega) only [↓rI_s, ↓rV_s, ↓rI_e, ↓rV_e, zc_eq, zc_ne, zc_lt, zc_ge, zc_gt, zc_le, zlt_t, zlt_f, zle_t, zle_f, zeq_t, zeq_f, lz, zadd, zsub, zmul, zneg, zb_e0, zb_e1, boo0, boo1, ua_s, ua_n, ua_ua, up_s, u2_s, u2_f, u2_c, u2_u2, Int.natCast_add, Int.zero_add, Int.add_zero, ↓reduceIte, ne_eq, not_true_eq_false, not_false_eq_true, Int.natCast_one, ↓zg_45_9, e9, ↓zg_45_5, zl_48, e48, ↓k_X0_seekWayFrom_136, ↓k_X0_seekWayFrom_155, ↓zg_45_4, zl_47, e47, ↓mc_45, e]
  by_cases hf0 : fW R F s w x p = 0
  · have e1 : wk R F s w x p 0 t = t := if_pos (.inr hf0)
    have e2 : wk R F s w x p 1 t = t := if_pos (.inr hf0)
    rw [e1, e2]
    refine ⟨I, A, .int (zI 0), l6, fi.refl, fr.refl, hsee, hW, ?_⟩
    rw [k_X0_seekWayFrom_91]
    simp (implicitDefEqProofs := false) (disch := omega) only [↓rI_s, ↓rV_s, ↓rI_e, ↓rV_e, zc_eq, zc_ne, zc_lt, zc_ge, zc_gt, zc_le, zlt_t, zlt_f, zle_t, zle_f, zeq_t, zeq_f, lz, zadd, zsub, zmul, zneg, zb_e0, zb_e1, boo0, boo1, ua_s, ua_n, ua_ua, up_s, u2_s, u2_f, u2_c, u2_u2, Int.natCast_add, Int.zero_add, Int.add_zero, ↓reduceIte, ne_eq, not_true_eq_false, not_false_eq_true, Int.natCast_one]
  · obtain ⟨I1, A1, m6, f1, g1, h1, x1⟩ := one 0 t I A l6 (.inl rfl) hX hv hW hx1 h0 hf0
    have v1 := hv.k (F := F) (s := s) (w := w) (p := p) (q := 0) hR.1 hx hx1 hp (by decide)
    have hX1 := hX.t (f1.wd rfl) (g1.wd rfl)
    have s1 : seeW R s w x (A1 23) := by rw [g1 23 rfl]; exact hsee
    rw [x1]
    by_cases c : (wk R F s w x p 0 t).2.2.2.2.1 = -1
    · obtain ⟨I2, A2, m7, f2, g2, h2, x2⟩ := one 1 _ I1 A1 m6 (.inr rfl) hX1 v1.1 h1 (by rw [v1.2.1]; exact hx1) c hf0
      refine ⟨I2, A2, .int (zI (1 + 1)), m7, f1.tr f2, (g1.wd rfl).tr (g2.wd rfl), by rw [g2 23 rfl]; exact s1, h2, ?_⟩
      rw [show (0 : Int) + 1 = 1 by decide, x2, k_X0_seekWayFrom_91]
      simp (implicitDefEqProofs := false) (disch := omega) only [↓rI_s, ↓rV_s, ↓rI_e, ↓rV_e, zc_eq, zc_ne, zc_lt, zc_ge, zc_gt, zc_le, zlt_t, zlt_f, zle_t, zle_f, zeq_t, zeq_f, lz, zadd, zsub, zmul, zneg, zb_e0, zb_e1, boo0, boo1, ua_s, ua_n, ua_ua, up_s, u2_s, u2_f, u2_c, u2_u2, Int.natCast_add, Int.zero_add, Int.add_zero, ↓reduceIte, ne_eq, not_true_eq_false, not_false_eq_true, Int.natCast_one]
    · have e2 : wk R F s w x p 1 (wk R F s w x p 0 t) = wk R F s w x p 0 t := if_pos (.inl c)
      rw [e2]
      have e9 := h1.2.2.2.2.1
      have vb := v1.1.2.2.2.2.1
      have vb2 := v1.1.2.2.2.2.2.1
      refine ⟨I1, A1, .int (zI (0 + 1)), m6, f1, g1.wd rfl, s1, h1, ?_⟩
      rw [k_X0_seekWayFrom_91]
      simp (implicitDefEqProofs := false) (disch := omega) only [↓rI_s, ↓rV_s, ↓rI_e, ↓rV_e, zc_eq, zc_ne, zc_lt, zc_ge, zc_gt, zc_le, zlt_t, zlt_f, zle_t, zle_f, zeq_t, zeq_f, lz, zadd, zsub, zmul, zneg, zb_e0, zb_e1, boo0, boo1, ua_s, ua_n, ua_ua, up_s, u2_s, u2_f, u2_c, u2_u2, Int.natCast_add, Int.zero_add, Int.add_zero, ↓reduceIte, ne_eq, not_true_eq_false, not_false_eq_true, Int.natCast_one, ↓zg_45_9, e9]
theorem c_seekWayFrom {w x : Int} {t : zQ} (hd : 4 ≤ d) (hX : cX R F s I A) (h0 : 0 ≤ w ∧ w < rW R) (hf : free R s w) (hv : wV R (s w) t) (hW : cW t I A) (hx : 0 ≤ x ∧ x < rF R) (hx1 : t.1 x ≠ -1) (hm : t.2.2.2.2.1 = -1) : ∃ I' A', fi wK I I' ∧ fr fL A A' ∧ cW (wr R F s w x 18 t) I' A' ∧ q_call q_MT d 7 [.ref 45, .int (zI w), .int (zI x)] (zM I A W) = some (.inl none, zM I' A' W) := by
  obtain ⟨d, rfl⟩ : ∃ e, d = e + 1 := ⟨d - 1, by omega⟩
  have hR := hX.1
  have hfe := hR.1.2.2.2.2.1
  have hw := hR.1.2.1
  have hV := hX.2.2.1.1
  have b1 := hX.2.1.1 w h0.1 h0.2
  rw [(enc_f hV.1 h0.1 h0.2).1 hf.1] at b1
  have b2 := hX.2.1.2.1 w h0.1 h0.2
  have b5 := hX.2.1.2.2.2.2.1 x hx.1 (by omega)
  have pw := hV.1 w h0.1 h0.2
  have he := (enc_f hV.1 h0.1 h0.2).1 hf.1
  obtain ⟨f, hfs, e⟩ := c24_showLaw (W := W) (show 1 ≤ d by omega) hR hX.2.1 hV.1 h0.1 h0.2
  rw [he] at hfs
  have start : ∃ A1, fr [23] A A1 ∧ seeW R s w x (A1 23) ∧ q_run qm_X0_seekWayFrom (q_call q_MT d) 0 [.ref 45, .int (zI w), .int (zI x), q_junk, q_junk, q_junk, q_junk] [] (zM I A W) = q_run qm_X0_seekWayFrom (q_call q_MT d) 64 [.ref 45, .int (zI w), .int (zI x), .int (zI 1), q_junk, q_junk, q_junk] [] (zM I A1 W) := by
    have hsee : ∀ u : Int, u = unW R s w x → seeW R s w x (up (up f 6 x) 4 u) := by
      intro u hu j j0 j1
      by_cases e4 : j = 4
      · subst e4; rw [up_s]; exact hu
      · rw [up_n e4]
        by_cases e6 : j = 6
        · subst e6; rw [up_s]; rfl
        · rw [up_n e6, hfs j (by omega) j1]
          unfold seeF
          rw [if_neg (show ¬ j = 0 by omega), if_neg (show ¬ j = 0 by omega), if_neg e4, if_neg e4, if_neg e6, if_neg e6]
    by_cases q : x = s w
    · refine ⟨ua A 23 (up (up f 6 x) 4 (s (10 + w))), fr.refl.a rfl, by rw [ua_s]; exact hsee _ (if_pos q).symm, ?_⟩
      simp (implicitDefEqProofs := false) (disch := omega) only [↓rI_s, ↓rV_s, ↓rI_e, ↓rV_e, zc_eq, zc_ne, zc_lt, zc_ge, zc_gt, zc_le, zlt_t, zlt_f, zle_t, zle_f, zeq_t, zeq_f, lz, zadd, zsub, zmul, zneg, zb_e0, zb_e1, boo0, boo1, ua_s, ua_n, ua_ua, up_s, u2_s, u2_f, u2_c, u2_u2, Int.natCast_add, Int.zero_add, Int.add_zero, ↓reduceIte, ne_eq, not_true_eq_false, not_false_eq_true, Int.natCast_one, ↓k_X0_seekWayFrom_0, ↓zg_45_1, ↓mc_24, e, ↓zg_45_2, ↓zg_19_3, zs_23, ↓zg_24_2, zl_25, b1, ↓zg_24_3, zl_26, b2, ↓k_X0_seekWayFrom_61]
    · refine ⟨ua A 23 (up (up f 6 x) 4 (many R s x)), fr.refl.a rfl, by rw [ua_s]; exact hsee _ (if_neg q).symm, ?_⟩
      simp (implicitDefEqProofs := false) (disch := omega) only [↓rI_s, ↓rV_s, ↓rI_e, ↓rV_e, zc_eq, zc_ne, zc_lt, zc_ge, zc_gt, zc_le, zlt_t, zlt_f, zle_t, zle_f, zeq_t, zeq_f, lz, zadd, zsub, zmul, zneg, zb_e0, zb_e1, boo0, boo1, ua_s, ua_n, ua_ua, up_s, u2_s, u2_f, u2_c, u2_u2, Int.natCast_add, Int.zero_add, Int.add_zero, ↓reduceIte, ne_eq, not_true_eq_false, not_false_eq_true, Int.natCast_one, ↓k_X0_seekWayFrom_0, ↓zg_45_1, ↓mc_24, e, ↓zg_45_2, ↓zg_19_3, zs_23, ↓zg_24_2, zl_25, b1, ↓zg_24_6, zl_29, b5, ↓k_X0_seekWayFrom_61]
  obtain ⟨A1, g1, s1, x1⟩ := start
  rw [cl_X0_seekWayFrom, x1]
  refine lp_x (fun j (M : (Nat → Nat → Int) × (Nat → Int → Int) × Value × Value × Value) => q_run qm_X0_seekWayFrom (q_call q_MT d) 64 [.ref 45, .int (zI w), .int (zI x), .int (zI (j + 1)), M.2.2.1, M.2.2.2.1, M.2.2.2.2] [] (zM M.1 M.2.1 W)) (fun j M => fi wK I M.1 ∧ fr fL A M.2.1 ∧ seeW R s w x (M.2.1 23) ∧ cW (wr R F s w x (2 * j) t) M.1 M.2.1) (fun r => ∃ I' A', fi wK I I' ∧ fr fL A A' ∧ cW (wr R F s w x 18 t) I' A' ∧ r = some (.inl none, zM I' A' W)) 9 ?_ ?_ 0 (I, A1, q_junk, q_junk, q_junk) (by omega) ⟨fi.refl, g1.wd rfl, s1, by
    show cW t I A1
    unfold cW
    rw [g1 47 rfl, g1 48 rfl, g1 46 rfl]; exact hW⟩
  · rintro ⟨I2, A2, l4, l5, l6⟩ ⟨f2, g2, s2, h2⟩
    refine ⟨I2, A2, f2, g2, h2, ?_⟩
    dsimp only
    rw [k_X0_seekWayFrom_64]
    simp (implicitDefEqProofs := false) (disch := omega) only [↓rI_s, ↓rV_s, ↓rI_e, ↓rV_e, zc_eq, zc_ne, zc_lt, zc_ge, zc_gt, zc_le, zlt_t, zlt_f, zle_t, zle_f, zeq_t, zeq_f, lz, zadd, zsub, zmul, zneg, zb_e0, zb_e1, boo0, boo1, ua_s, ua_n, ua_ua, up_s, u2_s, u2_f, u2_c, u2_u2, Int.natCast_add, Int.zero_add, Int.add_zero, ↓reduceIte, ne_eq, not_true_eq_false, not_false_eq_true, Int.natCast_one, ↓k_X0_seekWayFrom_180]
  · rintro j ⟨I2, A2, l4, l5, l6⟩ hj ⟨f2, g2, s2, h2⟩
    dsimp only at f2 g2 s2 h2 ⊢
    have vj := hv.r (F := F) (s := s) (w := w) hR.1 (show 0 ≤ x ∧ x < 30 by omega) hx1 (2 * j) (by omega)
    have hX2 := hX.t (f2.wd rfl) (g2.wd rfl)
    have es : wr R F s w x (2 * (j + 1)) t = wk R F s w x ((j : Int) + 1) 1 (wk R F s w x ((j : Int) + 1) 0 (wr R F s w x (2 * j) t)) := by
      have a1 : ((2 * j + 1 : Nat) : Int) / 2 + 1 = (j : Int) + 1 := by omega
      have a2 : ((2 * j + 1 : Nat) : Int) - ((2 * j + 1 : Nat) : Int) / 2 * 2 = 1 := by omega
      have a3 : ((2 * j : Nat) : Int) / 2 + 1 = (j : Int) + 1 := by omega
      have a4 : ((2 * j : Nat) : Int) - ((2 * j : Nat) : Int) / 2 * 2 = 0 := by omega
      have z1 : wr R F s w x (2 * j + 1 + 1) t = wk R F s w x (((2 * j + 1 : Nat) : Int) / 2 + 1) (((2 * j + 1 : Nat) : Int) - ((2 * j + 1 : Nat) : Int) / 2 * 2) (wr R F s w x (2 * j + 1) t) := rfl
      have z2 : wr R F s w x (2 * j + 1) t = wk R F s w x (((2 * j : Nat) : Int) / 2 + 1) (((2 * j : Nat) : Int) - ((2 * j : Nat) : Int) / 2 * 2) (wr R F s w x (2 * j) t) := rfl
      rw [a1, a2] at z1
      rw [a3, a4] at z2
      rw [show 2 * (j + 1) = 2 * j + 1 + 1 by omega, z1, z2]
    rw [k_X0_seekWayFrom_64]
    have e9 := h2.2.2.2.2.1
    by_cases c : (wr R F s w x (2 * j) t).2.2.2.2.1 = -1
    · obtain ⟨A3, g3, s3, e3⟩ := c_fBy (p := (j : Int) + 1) (W := W) (show 2 ≤ d by omega) hX2.2.2.2 s2
      obtain ⟨I4, A4, m5, m6, f4, g4, s4, h4, e4⟩ := c_how (p := (j : Int) + 1) (l1 := .int (zI w)) (l6 := l6) (W := W) (show 3 ≤ d by omega) (hX2.t fi.refl (g3.wd rfl)) vj.1 (h2.t fi.refl g3) (show 0 ≤ x ∧ x < 30 by omega) (by rw [vj.2.1]; exact hx1) (by omega) c s3
      refine .inr ⟨(I4, A4, .int (zI (fW R F s w x ((j : Int) + 1))), m5, m6), ⟨f2.tr f4, (g2.tr (g3.wd rfl)).tr g4, s4, by rw [es]; exact h4⟩, ?_⟩
      rw [c] at e9
      simp (implicitDefEqProofs := false) (disch := omega) only [↓rI_s, ↓rV_s, ↓rI_e, ↓rV_e, zc_eq, zc_ne, zc_lt, zc_ge, zc_gt, zc_le, zlt_t, zlt_f, zle_t, zle_f, zeq_t, zeq_f, lz, zadd, zsub, zmul, zneg, zb_e0, zb_e1, boo0, boo1, ua_s, ua_n, ua_ua, up_s, u2_s, u2_f, u2_c, u2_u2, Int.natCast_add, Int.zero_add, Int.add_zero, ↓reduceIte, ne_eq, not_true_eq_false, not_false_eq_true, Int.natCast_one, ↓zg_45_9, e9, ↓zg_45_2, ↓mc_19, e3]
      rw [e4, k_X0_seekWayFrom_174]
      simp (implicitDefEqProofs := false) (disch := omega) only [↓rI_s, ↓rV_s, ↓rI_e, ↓rV_e, zc_eq, zc_ne, zc_lt, zc_ge, zc_gt, zc_le, zlt_t, zlt_f, zle_t, zle_f, zeq_t, zeq_f, lz, zadd, zsub, zmul, zneg, zb_e0, zb_e1, boo0, boo1, ua_s, ua_n, ua_ua, up_s, u2_s, u2_f, u2_c, u2_u2, Int.natCast_add, Int.zero_add, Int.add_zero, ↓reduceIte, ne_eq, not_true_eq_false, not_false_eq_true, Int.natCast_one]
    · have vb := vj.1.2.2.2.2.1
      have vb2 := vj.1.2.2.2.2.2.1
      have stay : ∀ k : Nat, wr R F s w x (2 * j + k) t = wr R F s w x (2 * j) t := by
        intro k
        induction k with
        | zero => rfl
        | succ k ih =>
          have z : wr R F s w x (2 * j + (k + 1)) t = wk R F s w x (((2 * j + k : Nat) : Int) / 2 + 1) (((2 * j + k : Nat) : Int) - ((2 * j + k : Nat) : Int) / 2 * 2) (wr R F s w x (2 * j + k) t) := rfl
          rw [z, ih]
          exact if_pos (.inl c)
      refine .inl ⟨I2, A2, f2, g2, ?_, ?_⟩
      · have := stay (18 - 2 * j)
        rw [show 2 * j + (18 - 2 * j) = 18 by omega] at this
        rw [this]; exact h2
      · simp (implicitDefEqProofs := false) (disch := omega) only [↓rI_s, ↓rV_s, ↓rI_e, ↓rV_e, zc_eq, zc_ne, zc_lt, zc_ge, zc_gt, zc_le, zlt_t, zlt_f, zle_t, zle_f, zeq_t, zeq_f, lz, zadd, zsub, zmul, zneg, zb_e0, zb_e1, boo0, boo1, ua_s, ua_n, ua_ua, up_s, u2_s, u2_f, u2_c, u2_u2, Int.natCast_add, Int.zero_add, Int.add_zero, ↓reduceIte, ne_eq, not_true_eq_false, not_false_eq_true, Int.natCast_one, ↓zg_45_9, e9, ↓k_X0_seekWayFrom_180]
theorem wV.b {R : zR} {F : zF} {s : Int → Int} {w h : Int} (hR : wR R) : ∀ (f i : Nat) (t : zQ), wV R h t → wV R h (wb R F s w f i t)
  | 0, _, _, v => v
  | f + 1, i, t, v => by
    unfold wb
    split
    · rename_i c
      have q := v.2.2.1 i (by omega) c.1
      have := hR.2.2.2.2.1
      exact wV.b hR f (i + 1) _ (v.r hR ⟨q.1, by omega⟩ q.2.2 18 (by omega)).1
    · exact v
theorem c_bfs {w : Int} (hd : 5 ≤ d) (h0 : 0 ≤ w ∧ w < rW R) (hf : free R s w) : ∀ (f i : Nat) (t : zQ) (I : Nat → Nat → Int) (A : Nat → Int → Int), i + f = 30 → cX R F s I A → wV R (s w) t → cW t I A → ∃ I' A', fi wK I I' ∧ fr fL A A' ∧ cW (wb R F s w f i t) I' A' ∧ q_run qm_X0_seekWay (q_call q_MT d) 65 [.ref 45, .int (zI w), .int (zI i)] [] (zM I A W) = some (.inl none, zM I' A' W) := by
  intro f
  induction f with
  | zero =>
    intro i t I A hi hX hv hW
    refine ⟨I, A, fi.refl, fr.refl, hW, ?_⟩
    rw [k_X0_seekWay_65]
    simp (implicitDefEqProofs := false) (disch := omega) only [↓rI_s, ↓rV_s, ↓rI_e, ↓rV_e, zc_eq, zc_ne, zc_lt, zc_ge, zc_gt, zc_le, zlt_t, zlt_f, zle_t, zle_f, zeq_t, zeq_f, lz, zadd, zsub, zmul, zneg, zb_e0, zb_e1, boo0, boo1, ua_s, ua_n, ua_ua, up_s, u2_s, u2_f, u2_c, u2_u2, Int.natCast_add, Int.zero_add, Int.add_zero, ↓reduceIte, ne_eq, not_true_eq_false, not_false_eq_true, Int.natCast_one, ↓zg_45_3, ↓zn_46, ↓k_X0_seekWay_107]
  | succ f ih =>
    intro i t I A hi hX hv hW
    have vm := hv.m
    have e8 := hW.2.2.2.1
    have e9 := hW.2.2.2.2.1
    have vb := hv.2.2.2.2.1
    have vb2 := hv.2.2.2.2.2.1
    rw [k_X0_seekWay_65]
    unfold wb
    by_cases c : (i : Int) < t.2.2.2.1 ∧ t.2.2.2.2.1 = -1
    · rw [if_pos c]
      have q := hv.2.2.1 i (by omega) c.1
      have e46 := hW.2.2.1 i (by omega) c.1
      have hfe := hX.1.1.2.2.2.2.1
      obtain ⟨I1, A1, f1, g1, h1, e1⟩ := c_seekWayFrom (W := W) (show 4 ≤ d by omega) hX h0 hf hv hW ⟨q.1, q.2.1⟩ q.2.2 c.2
      obtain ⟨I2, A2, f2, g2, h2, e2⟩ := ih (i + 1) _ I1 A1 (by omega) (hX.t (f1.wd rfl) (g1.wd rfl)) (hv.r hX.1.1 ⟨q.1, by omega⟩ q.2.2 18 (by omega)).1 h1
      refine ⟨I2, A2, f1.tr f2, g1.tr g2, h2, ?_⟩
      simp (implicitDefEqProofs := false) (disch := omega) only [↓rI_s, ↓rV_s, ↓rI_e, ↓rV_e, zc_eq, zc_ne, zc_lt, zc_ge, zc_gt, zc_le, zlt_t, zlt_f, zle_t, zle_f, zeq_t, zeq_f, lz, zadd, zsub, zmul, zneg, zb_e0, zb_e1, boo0, boo1, ua_s, ua_n, ua_ua, up_s, u2_s, u2_f, u2_c, u2_u2, Int.natCast_add, Int.zero_add, Int.add_zero, ↓reduceIte, ne_eq, not_true_eq_false, not_false_eq_true, Int.natCast_one, ↓zg_45_3, ↓zn_46, ↓zg_45_8, e8, ↓zg_45_9, e9, zl_46, e46, ↓mc_45, e1]
      exact e2
    · rw [if_neg c]
      refine ⟨I, A, fi.refl, fr.refl, hW, ?_⟩
      by_cases c2 : (i : Int) < t.2.2.2.1
      · simp (implicitDefEqProofs := false) (disch := omega) only [↓rI_s, ↓rV_s, ↓rI_e, ↓rV_e, zc_eq, zc_ne, zc_lt, zc_ge, zc_gt, zc_le, zlt_t, zlt_f, zle_t, zle_f, zeq_t, zeq_f, lz, zadd, zsub, zmul, zneg, zb_e0, zb_e1, boo0, boo1, ua_s, ua_n, ua_ua, up_s, u2_s, u2_f, u2_c, u2_u2, Int.natCast_add, Int.zero_add, Int.add_zero, ↓reduceIte, ne_eq, not_true_eq_false, not_false_eq_true, Int.natCast_one, ↓zg_45_3, ↓zn_46, ↓zg_45_8, e8, ↓zg_45_9, e9, ↓k_X0_seekWay_107]
      · simp (implicitDefEqProofs := false) (disch := omega) only [↓rI_s, ↓rV_s, ↓rI_e, ↓rV_e, zc_eq, zc_ne, zc_lt, zc_ge, zc_gt, zc_le, zlt_t, zlt_f, zle_t, zle_f, zeq_t, zeq_f, lz, zadd, zsub, zmul, zneg, zb_e0, zb_e1, boo0, boo1, ua_s, ua_n, ua_ua, up_s, u2_s, u2_f, u2_c, u2_u2, Int.natCast_add, Int.zero_add, Int.add_zero, ↓reduceIte, ne_eq, not_true_eq_false, not_false_eq_true, Int.natCast_one, ↓zg_45_3, ↓zn_46, ↓zg_45_8, e8, ↓k_X0_seekWay_107]
def wQ (R : zR) (F : zF) (s : Int → Int) (w : Int) : zQ := wb R F s w 30 0 (w0 (s w))
def vWay (R : zR) (F : zF) (s : Int → Int) (w k : Int) : Int := if free R s w then (if k = 0 then (wQ R F s w).2.2.2.2.1 else (wQ R F s w).2.2.2.2.2) else -1
theorem w0_V {x : Int} (hR : wR R) (h0 : 0 ≤ x) (h1 : x < rF R) : wV R x (w0 x) := by
  have hf := hR.2.2.2.2.1
  unfold w0
  refine ⟨fun y y0 y1 => ?_, ?_, fun i i0 i1 => ?_, fun y y0 y1 hy => ?_, show (-1 : Int) ≤ -1 by decide, show (-1 : Int) ≤ 31 by decide, fun _ => rfl, ?_, h0, h1, hf⟩
  · dsimp only; split <;> omega
  · dsimp only
    obtain ⟨k, hk⟩ := Int.eq_ofNat_of_zero_le h0
    have := cnt_ch (n := 30) (k := k) (p := fun y : Nat => decide ((if (y : Int) = x then (0 : Int) else -1) ≠ -1)) (q := fun _ => false) (by omega) (fun j hj hn => by
      show decide ((if (j : Int) = x then (0 : Int) else -1) ≠ -1) = false
      rw [if_neg (by omega)]; rfl)
    have x2 : decide ((if (k : Int) = x then (0 : Int) else -1) ≠ -1) = true := by rw [if_pos hk.symm]; decide
    have z : cnt 30 (fun _ => false) = 0 := cnt_z fun _ _ h => by simp at h
    simp only [x2, if_true, Bool.false_eq_true, if_false] at this
    omega
  · dsimp only at i1 ⊢
    rw [if_pos rfl]
    exact ⟨h0, h1, by decide⟩
  · dsimp only at hy ⊢
    by_cases e : y = x
    · exact ⟨⟨fun _ => e, fun _ => rfl⟩, .inl rfl, by decide⟩
    · rw [if_neg e] at hy; exact absurd rfl hy
  · dsimp only; rw [if_pos rfl]; decide
theorem c_seekWay {w : Int} (hd : 6 ≤ d) (hX : cX R F s I A) (h0 : 0 ≤ w ∧ w < rW R) : ∃ I' A', fi wK I I' ∧ fr fL A A' ∧ I' 45 9 = vWay R F s w 0 ∧ I' 45 10 = vWay R F s w 1 ∧ q_call q_MT d 5 [.ref 45, .int (zI w)] (zM I A W) = some (.inl none, zM I' A' W) := by
  obtain ⟨d, rfl⟩ : ∃ e, d = e + 1 := ⟨d - 1, by omega⟩
  have hR := hX.1
  have hV := hX.2.2.1.1
  have hw := hR.1.2.1
  have hfe := hR.1.2.2.2.2.1
  have fI : fi wK I (u2 (u2 I 45 9 (-1)) 45 10 (-1)) := (fi.refl.f rfl).f rfl
  have hX1 : cX R F s (u2 (u2 I 45 9 (-1)) 45 10 (-1)) A := hX.t (fI.wd rfl) fr.refl
  have i1 := fun kx k => c24_isFree (I := u2 (u2 I 45 9 (-1)) 45 10 (-1)) (A := A) (W := W) (kx := kx) (k := k) (show 2 ≤ d by omega) hX1.1 hX1.2.1 hV.1 h0.1 h0.2
  rw [cl_X0_seekWay]
  by_cases c : free R s w
  · simp only [zb_t c] at i1
    have b1 := hX.2.1.1 w h0.1 h0.2
    rw [(enc_f hV.1 h0.1 h0.2).1 c.1] at b1
    have pw := hV.1 w h0.1 h0.2
    have c0 := c.1
    have e0 : vWay R F s w 0 = (wQ R F s w).2.2.2.2.1 := by unfold vWay; rw [if_pos c, if_pos rfl]
    have e1 : vWay R F s w 1 = (wQ R F s w).2.2.2.2.2 := by unfold vWay; rw [if_pos c, if_neg (by decide)]
    rw [e0, e1]
    simp (implicitDefEqProofs := false) (disch := omega) only [↓rI_s, ↓rV_s, ↓rI_e, ↓rV_e, zc_eq, zc_ne, zc_lt, zc_ge, zc_gt, zc_le, zlt_t, zlt_f, zle_t, zle_f, zeq_t, zeq_f, lz, zadd, zsub, zmul, zneg, zb_e0, zb_e1, boo0, boo1, ua_s, ua_n, ua_ua, up_s, u2_s, u2_f, u2_c, u2_u2, Int.natCast_add, Int.zero_add, Int.add_zero, ↓reduceIte, ne_eq, not_true_eq_false, not_false_eq_true, Int.natCast_one, ↓k_X0_seekWay_0, ↓zp_45_9, ↓zp_45_10, ↓zg_45_1, ↓mc_24, ↓i1]
    have z1 : ∃ g, (∀ y : Int, 0 ≤ y → y < 30 → g y = -1) ∧ q_run qm_X0_seekWay (q_call q_MT d) 24 [.ref 45, .int (zI w), .int (zI 0)] [] (zM (u2 (u2 I 45 9 (-1)) 45 10 (-1)) A W) = q_run qm_X0_seekWay (q_call q_MT d) 24 [.ref 45, .int (zI w), .int (zI ((30 : Nat) : Int))] [] (zM (u2 (u2 I 45 9 (-1)) 45 10 (-1)) (ua A 47 g) W) := by
      have hid : ua A 47 (A 47) = A := ua_id
      conv => enter [1, g, 2, 1]; rw [← hid]
      obtain ⟨g, hg, e⟩ := lp_g (fun j (g : Int → Int) => q_run qm_X0_seekWay (q_call q_MT d) 24 [.ref 45, .int (zI w), .int (zI j)] [] (zM (u2 (u2 I 45 9 (-1)) 45 10 (-1)) (ua A 47 g) W)) (fun j g => ∀ y : Int, 0 ≤ y → y < j → g y = -1) 30 (fun j g hj hg => ⟨up g j (-1), fun y y0 y1 => by
          by_cases e : y = j
          · subst e; rw [up_s]
          · rw [up_n e]; exact hg y y0 (by omega), by
          rw [k_X0_seekWay_24]
          simp (implicitDefEqProofs := false) (disch := omega) only [↓rI_s, ↓rV_s, ↓rI_e, ↓rV_e, zc_eq, zc_ne, zc_lt, zc_ge, zc_gt, zc_le, zlt_t, zlt_f, zle_t, zle_f, zeq_t, zeq_f, lz, zadd, zsub, zmul, zneg, zb_e0, zb_e1, boo0, boo1, ua_s, ua_n, ua_ua, up_s, u2_s, u2_f, u2_c, u2_u2, Int.natCast_add, Int.zero_add, Int.add_zero, ↓reduceIte, ne_eq, not_true_eq_false, not_false_eq_true, Int.natCast_one, ↓zg_45_4, zs_47]⟩) 0 (A 47) (by omega) (fun y y0 y1 => by omega)
      exact ⟨g, hg, e⟩
    obtain ⟨g, hg, ez⟩ := z1
    rw [ez, k_X0_seekWay_24]
    -- reach home
    have hA : A 25 w = s w := b1
    have er : q_call q_MT d 6 [.ref 45, .int (zI (s w)), .int (zI 0), .int (zI (-1))] (zM (u2 (u2 (u2 I 45 9 (-1)) 45 10 (-1)) 45 8 0) (ua A 47 g) W) = some (.inl none, zM (u2 (u2 (u2 I 45 9 (-1)) 45 10 (-1)) 45 8 1) (ua (ua (ua A 47 (up g (s w) 0)) 48 (up (A 48) (s w) (-1))) 46 (up (A 46) 0 (s w))) W) := by
      have eg := hg (s w) c0 (by omega)
      obtain ⟨e, rfl⟩ : ∃ e, d = e + 1 := ⟨d - 1, by omega⟩
      rw [cl_X0_reach]
      simp (implicitDefEqProofs := false) (disch := omega) only [↓rI_s, ↓rV_s, ↓rI_e, ↓rV_e, zc_eq, zc_ne, zc_lt, zc_ge, zc_gt, zc_le, zlt_t, zlt_f, zle_t, zle_f, zeq_t, zeq_f, lz, zadd, zsub, zmul, zneg, zb_e0, zb_e1, boo0, boo1, ua_s, ua_n, ua_ua, up_s, u2_s, u2_f, u2_c, u2_u2, Int.natCast_add, Int.zero_add, Int.add_zero, ↓reduceIte, ne_eq, not_true_eq_false, not_false_eq_true, Int.natCast_one, ↓k_X0_reach_0, ↓k_X0_reach_56, ↓zg_45_4, zl_47, zs_47, ↓zn_47, ↓zg_45_8, ↓zg_45_3, zl_46, zs_46, ↓zn_46, ↓zg_45_5, zl_48, zs_48, ↓zn_48, zp_45_8, eg]
    have hcW : cW (w0 (s w)) (u2 (u2 (u2 I 45 9 (-1)) 45 10 (-1)) 45 8 1) (ua (ua (ua A 47 (up g (s w) 0)) 48 (up (A 48) (s w) (-1))) 46 (up (A 46) 0 (s w))) := by
      refine ⟨fun x x0 x1 => ?_, fun x x0 x1 hx => ?_, fun i i0 i1 => ?_, rfl, rfl, rfl⟩
      · show up g (s w) 0 x = if x = s w then 0 else -1
        unfold up
        split
        · rfl
        · exact hg x x0 x1
      · show up (A 48) (s w) (-1) x = -1
        by_cases e : x = s w
        · subst e; rw [up_s]
        · have : (w0 (s w)).1 x = -1 := if_neg e
          exact absurd this hx
      · show up (A 46) 0 (s w) i = s w
        have i1' : i < 1 := i1
        rw [show i = 0 by omega, up_s]
    have gg : fr fL A (ua (ua (ua A 47 (up g (s w) 0)) 48 (up (A 48) (s w) (-1))) 46 (up (A 46) 0 (s w))) := ((fr.refl.a rfl).a rfl).a rfl
    have ff : fi wK I (u2 (u2 (u2 I 45 9 (-1)) 45 10 (-1)) 45 8 1) := fI.f rfl
    obtain ⟨I', A', f3, g3, h3, e3⟩ := c_bfs (W := W) (show 5 ≤ d by omega) h0 c 30 0 _ _ _ (by omega) (hX.t (ff.wd rfl) (gg.wd rfl)) (w0_V hR.1 c0 (by omega)) hcW
    refine ⟨I', A', ff.tr f3, gg.tr g3, h3.2.2.2.2.1, h3.2.2.2.2.2, ?_⟩
    simp (implicitDefEqProofs := false) (disch := omega) only [↓rI_s, ↓rV_s, ↓rI_e, ↓rV_e, zc_eq, zc_ne, zc_lt, zc_ge, zc_gt, zc_le, zlt_t, zlt_f, zle_t, zle_f, zeq_t, zeq_f, lz, zadd, zsub, zmul, zneg, zb_e0, zb_e1, boo0, boo1, ua_s, ua_n, ua_ua, up_s, u2_s, u2_f, u2_c, u2_u2, Int.natCast_add, Int.zero_add, Int.add_zero, ↓reduceIte, ne_eq, not_true_eq_false, not_false_eq_true, Int.natCast_one, ↓zp_45_8, ↓zg_45_1, ↓zg_24_2, zl_25, hA, ↓mc_45]
    rw [er]
    simp (implicitDefEqProofs := false) (disch := omega) only [↓rI_s, ↓rV_s, ↓rI_e, ↓rV_e, zc_eq, zc_ne, zc_lt, zc_ge, zc_gt, zc_le, zlt_t, zlt_f, zle_t, zle_f, zeq_t, zeq_f, lz, zadd, zsub, zmul, zneg, zb_e0, zb_e1, boo0, boo1, ua_s, ua_n, ua_ua, up_s, u2_s, u2_f, u2_c, u2_u2, Int.natCast_add, Int.zero_add, Int.add_zero, ↓reduceIte, ne_eq, not_true_eq_false, not_false_eq_true, Int.natCast_one]
    exact e3
  · simp only [zb_f c] at i1
    have e0 : vWay R F s w 0 = -1 := if_neg c
    have e1 : vWay R F s w 1 = -1 := if_neg c
    rw [e0, e1]
    refine ⟨_, A, fI, fr.refl, by rw [u2_f (by decide), u2_s], u2_s, ?_⟩
    simp (implicitDefEqProofs := false) (disch := omega) only [↓rI_s, ↓rV_s, ↓rI_e, ↓rV_e, zc_eq, zc_ne, zc_lt, zc_ge, zc_gt, zc_le, zlt_t, zlt_f, zle_t, zle_f, zeq_t, zeq_f, lz, zadd, zsub, zmul, zneg, zb_e0, zb_e1, boo0, boo1, ua_s, ua_n, ua_ua, up_s, u2_s, u2_f, u2_c, u2_u2, Int.natCast_add, Int.zero_add, Int.add_zero, ↓reduceIte, ne_eq, not_true_eq_false, not_false_eq_true, Int.natCast_one, ↓k_X0_seekWay_0, ↓zp_45_9, ↓zp_45_10, ↓zg_45_1, ↓mc_24, ↓i1]
theorem C_way {w k : Int} (hd : 8 ≤ d) (hX : cX R F s I A) (hh : wI w) (hk : wI k) : cOut I A W (q_call q_MT d 130 [.ref 2, .int (zI w), .int (zI k)] (zM I A W)) (if 0 ≤ w ∧ w < rW R then (if 0 ≤ k ∧ k ≤ 1 then 0 else 2) else 1) (vWay R F s w k) := by
  obtain ⟨d, rfl⟩ : ∃ e, d = e + 1 := ⟨d - 1, by omega⟩
  have hR := hX.1
  rw [cl_X10_way]
  by_cases c1 : 0 ≤ w ∧ w < rW R
  · by_cases c2 : 0 ≤ k ∧ k ≤ 1
    · rw [if_pos c1, if_pos c2]
      obtain ⟨I', A', f, g, e9, e10, e⟩ := c_seekWay (W := W) (show 6 ≤ d by omega) hX c1
      refine cOut.ok (f.wd rfl) (g.wd rfl) ?_
      have : k = 0 ∨ k = 1 := by omega
      rcases this with rfl | rfl
      · simp (implicitDefEqProofs := false) (disch := omega) only [↓rI_s, ↓rV_s, ↓rI_e, ↓rV_e, zc_eq, zc_ne, zc_lt, zc_ge, zc_gt, zc_le, zlt_t, zlt_f, zle_t, zle_f, zeq_t, zeq_f, lz, zadd, zsub, zmul, zneg, zb_e0, zb_e1, boo0, boo1, ua_s, ua_n, ua_ua, up_s, u2_s, u2_f, u2_c, u2_u2, Int.natCast_add, Int.zero_add, Int.add_zero, ↓reduceIte, ne_eq, not_true_eq_false, not_false_eq_true, Int.natCast_one, ↓k_X10_way_0, ↓k_X10_way_40, ↓mc_2, s_needWink (show 2 ≤ d by omega) hR, s_needWink_f (show 2 ≤ d by omega) hR, s_needCup (show 2 ≤ d by omega) hR, s_needCup_f (show 2 ≤ d by omega) hR, s_needHouse (show 2 ≤ d by omega) hR, s_needHouse_f (show 2 ≤ d by omega) hR, s_needThere, s_needThere_f, s_needPress, s_needPress_f, s_needWhat, s_needWhat_f, s_needWithin, s_needWithin_f, s_need1, s_need0, t0_0, t0_1, ↓zg_2_8, ↓mc_45, e, ↓zg_45_9, ↓zg_45_10, e9, e10]
      · simp (implicitDefEqProofs := false) (disch := omega) only [↓rI_s, ↓rV_s, ↓rI_e, ↓rV_e, zc_eq, zc_ne, zc_lt, zc_ge, zc_gt, zc_le, zlt_t, zlt_f, zle_t, zle_f, zeq_t, zeq_f, lz, zadd, zsub, zmul, zneg, zb_e0, zb_e1, boo0, boo1, ua_s, ua_n, ua_ua, up_s, u2_s, u2_f, u2_c, u2_u2, Int.natCast_add, Int.zero_add, Int.add_zero, ↓reduceIte, ne_eq, not_true_eq_false, not_false_eq_true, Int.natCast_one, ↓k_X10_way_0, ↓k_X10_way_40, ↓mc_2, s_needWink (show 2 ≤ d by omega) hR, s_needWink_f (show 2 ≤ d by omega) hR, s_needCup (show 2 ≤ d by omega) hR, s_needCup_f (show 2 ≤ d by omega) hR, s_needHouse (show 2 ≤ d by omega) hR, s_needHouse_f (show 2 ≤ d by omega) hR, s_needThere, s_needThere_f, s_needPress, s_needPress_f, s_needWhat, s_needWhat_f, s_needWithin, s_needWithin_f, s_need1, s_need0, t0_0, t0_1, ↓zg_2_8, ↓mc_45, e, ↓zg_45_9, ↓zg_45_10, e9, e10]
    · rw [if_pos c1, if_neg c2]
      exact cOut.il (by simp (implicitDefEqProofs := false) (disch := omega) only [↓rI_s, ↓rV_s, ↓rI_e, ↓rV_e, zc_eq, zc_ne, zc_lt, zc_ge, zc_gt, zc_le, zlt_t, zlt_f, zle_t, zle_f, zeq_t, zeq_f, lz, zadd, zsub, zmul, zneg, zb_e0, zb_e1, boo0, boo1, ua_s, ua_n, ua_ua, up_s, u2_s, u2_f, u2_c, u2_u2, Int.natCast_add, Int.zero_add, Int.add_zero, ↓reduceIte, ne_eq, not_true_eq_false, not_false_eq_true, Int.natCast_one, ↓k_X10_way_0, ↓mc_2, s_needWink (show 2 ≤ d by omega) hR, s_needWink_f (show 2 ≤ d by omega) hR, s_needCup (show 2 ≤ d by omega) hR, s_needCup_f (show 2 ≤ d by omega) hR, s_needHouse (show 2 ≤ d by omega) hR, s_needHouse_f (show 2 ≤ d by omega) hR, s_needThere, s_needThere_f, s_needPress, s_needPress_f, s_needWhat, s_needWhat_f, s_needWithin, s_needWithin_f, s_need1, s_need0, t0_0, t0_1])
  · rw [if_neg c1]
    exact cOut.ns (by simp (implicitDefEqProofs := false) (disch := omega) only [↓rI_s, ↓rV_s, ↓rI_e, ↓rV_e, zc_eq, zc_ne, zc_lt, zc_ge, zc_gt, zc_le, zlt_t, zlt_f, zle_t, zle_f, zeq_t, zeq_f, lz, zadd, zsub, zmul, zneg, zb_e0, zb_e1, boo0, boo1, ua_s, ua_n, ua_ua, up_s, u2_s, u2_f, u2_c, u2_u2, Int.natCast_add, Int.zero_add, Int.add_zero, ↓reduceIte, ne_eq, not_true_eq_false, not_false_eq_true, Int.natCast_one, ↓k_X10_way_0, ↓mc_2, s_needWink (show 2 ≤ d by omega) hR, s_needWink_f (show 2 ≤ d by omega) hR, s_needCup (show 2 ≤ d by omega) hR, s_needCup_f (show 2 ≤ d by omega) hR, s_needHouse (show 2 ≤ d by omega) hR, s_needHouse_f (show 2 ≤ d by omega) hR, s_needThere, s_needThere_f, s_needPress, s_needPress_f, s_needWhat, s_needWhat_f, s_needWithin, s_needWithin_f, s_need1, s_need0, t0_0, t0_1])
end CW
