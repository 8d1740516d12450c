--DEPS 9n.lawq
/-! PLAY: what is read, as steps. -/
abbrev zPg : Type := Nat × (Int → Int) × (Int → Int) × (Int → Int)
abbrev zPp : Type := Int → zPg → zE (Int × zPg)
def qAd (k a b : Int) (p : zPg) : zPg := (p.1 + 1, up p.2.1 p.1 k, up p.2.2.1 p.1 a, up p.2.2.2 p.1 b)
def qCl (i : Nat) (p : zPg) : zPg := (p.1, p.2.1, p.2.2.1, up p.2.2.2 i p.1)
def qFl (T : Int → Int) (n w k : Int) : zPp := fun a p => bd (numS T n 0 (w - 1) a) fun x => bd (numS T n 1 9 x.1) fun y => .inr (y.1, qAd k x.2 y.2 p)
def qAg (T : Int → Int) (n : Int) (Rw : zPp) : zPp := fun a p => bd (numS T n 0 30 a) fun x => bd (sgnS T n 91 x.1) fun e1 => bd (Rw e1 (qAd 5 x.2 0 p)) fun y => bd (sgnS T n 93 y.1) fun e2 => .inr (e2, qCl p.1 y.2)
def qSt (T : Int → Int) (n w : Int) (o : Bool) (Rw : zPp) : zPp := fun a p =>
  if wq T (sk T n a) (gE (qL' T) n (sk T n a)) 15 then qFl T n w 0 (gE (qL' T) n (sk T n a)) p
  else if wq T (sk T n a) (gE (qL' T) n (sk T n a)) 16 then qFl T n w 1 (gE (qL' T) n (sk T n a)) p
  else if wq T (sk T n a) (gE (qL' T) n (sk T n a)) 9 then bd (numS T n 0 9 (gE (qL' T) n (sk T n a))) fun x => .inr (x.1, qAd 2 x.2 0 p)
  else if wq T (sk T n a) (gE (qL' T) n (sk T n a)) 17 then .inr (gE (qL' T) n (sk T n a), qAd 3 0 0 p)
  else if wq T (sk T n a) (gE (qL' T) n (sk T n a)) 13 then .inr (gE (qL' T) n (sk T n a), qAd 4 0 0 p)
  else if wq T (sk T n a) (gE (qL' T) n (sk T n a)) 18 then (if o = true then qAg T n Rw (gE (qL' T) n (sk T n a)) p else .inl (3, sk T n a))
  else .inl (1, sk T n a)
/-- a step with its sign -/
def qSs (T : Int → Int) (n : Int) (St : zPp) : zPp := fun a p => bd (St a p) fun x => bd (sgnS T n 59 x.1) fun e => .inr (e, x.2)
abbrev qEnd (T : Int → Int) (n : Int) (z : Bool) (a : Int) : Prop := if z = true then sk T n a < n ∧ T (sk T n a) = 93 else ¬ sk T n a < n
def qRw (T : Int → Int) (n : Int) (z : Bool) (St : zPp) : Nat → zPp
  | 0, a, p => .inr (a, p)
  | m + 1, a, p => if qEnd T n z a then .inr (sk T n a, p) else bd (qSs T n St a p) fun x => qRw T n z St m x.1 x.2
def qv (T : Int → Int) (n w : Int) : Nat → zPp
  | 0 => qSt T n w false (fun _ _ => .inl (0, 0))
  | l + 1 => qSt T n w true (qRw T n true (qv T n w l) 151)
def plA (T : Int → Int) (n w : Int) : zE (Int × zPg) := qRw T n false (qv T n w 6) 151 0 (0, fun _ => 0, fun _ => 0, fun _ => 0)
section PW
variable {R : zR}
theorem wfP_mo {pk pa pb : Int → Int} : ∀ (n : Nat) (lev : Nat) (i t : Int), wfP R pk pa pb n lev i t → wfP R pk pa pb (n + 1) lev i t
  | 0, lev, i, t, h => .inl h
  | n + 1, lev, i, t, h => by
    rcases h with h | ⟨h, ⟨h1, h2, h3, h4, h5, h6, h7, h8⟩ | ⟨h1, h2⟩⟩
    · exact .inl h
    · exact .inr ⟨h, .inl ⟨h1, h2, h3, h4, h5, h6, wfP_mo n _ _ _ h7, wfP_mo n _ _ _ h8⟩⟩
    · exact .inr ⟨h, .inr ⟨h1, wfP_mo n _ _ _ h2⟩⟩
theorem wfP_le {pk pa pb : Int → Int} {n m lev : Nat} {i t : Int} (h : wfP R pk pa pb n lev i t) (hm : n ≤ m) : wfP R pk pa pb m lev i t := by
  induction hm with
  | refl => exact h
  | step _ ih => exact wfP_mo _ _ _ _ ih
theorem wfP_ap {pk pa pb : Int → Int} {m lev : Nat} {j t : Int} (hj : wfP R pk pa pb m lev j t) (hjt : j ≤ t) : ∀ (n : Nat) (i : Int), wfP R pk pa pb n lev i j → ∃ k, wfP R pk pa pb k lev i t
  | 0, i, h => by
    have h : i = j := h
    subst h
    exact ⟨m, hj⟩
  | n + 1, i, h => by
    rcases h with h | ⟨h, ⟨h1, h2, h3, h4, h5, h6, h7, h8⟩ | ⟨h1, h2⟩⟩
    · subst h
      exact ⟨m, hj⟩
    · obtain ⟨k, hk⟩ := wfP_ap hj hjt n _ h8
      exact ⟨max k n + 1, .inr ⟨by omega, .inl ⟨h1, h2, h3, h4, h5, by omega, wfP_le h7 (by omega), wfP_le hk (by omega)⟩⟩⟩
    · obtain ⟨k, hk⟩ := wfP_ap hj hjt n _ h2
      exact ⟨k + 1, .inr ⟨by omega, .inr ⟨h1, hk⟩⟩⟩
theorem wfP_cg {pk pa pb qk qa qb : Int → Int} : ∀ (n lev : Nat) (i t : Int), (∀ j : Int, i ≤ j → j < t → qk j = pk j ∧ qa j = pa j ∧ qb j = pb j) → wfP R pk pa pb n lev i t → wfP R qk qa qb n lev i t
  | 0, lev, i, t, _, h => h
  | n + 1, lev, i, t, c, h => by
    rcases h with h | ⟨h, h'⟩
    · exact .inl h
    · obtain ⟨c1, c2, c3⟩ := c i (by omega) h
      rcases h' with ⟨h1, h2, h3, h4, h5, h6, h7, h8⟩ | ⟨h1, h2⟩
      · refine .inr ⟨h, .inl ⟨by rw [c1]; exact h1, h2, by rw [c2]; exact h3, by rw [c2]; exact h4, by rw [c3]; exact h5, by rw [c3]; exact h6, ?_, ?_⟩⟩
        · rw [c3]
          exact wfP_cg n _ _ _ (fun j j0 j1 => c j (by omega) (by omega)) h7
        · rw [c3]
          exact wfP_cg n _ _ _ (fun j j0 j1 => c j (by omega) (by omega)) h8
      · refine .inr ⟨h, .inr ⟨by rw [c1, c2]; exact h1, ?_⟩⟩
        exact wfP_cg n _ _ _ (fun j j0 j1 => c j (by omega) (by omega)) h2
/-- from p to p': what was there stays, and what is new is well formed -/
def qGo (R : zR) (lev : Nat) (p p' : zPg) : Prop := p.1 ≤ p'.1 ∧ (∀ j : Int, 0 ≤ j → j < p.1 → p'.2.1 j = p.2.1 j ∧ p'.2.2.1 j = p.2.2.1 j ∧ p'.2.2.2 j = p.2.2.2 j) ∧ ∃ k, wfP R p'.2.1 p'.2.2.1 p'.2.2.2 k lev p.1 p'.1
theorem qGo.rf {lev : Nat} {p : zPg} : qGo R lev p p := ⟨Nat.le_refl _, fun j _ _ => ⟨rfl, rfl, rfl⟩, 0, rfl⟩
theorem qGo.tr {lev : Nat} {p q r : zPg} (h : qGo R lev p q) (g : qGo R lev q r) : qGo R lev p r := by
  obtain ⟨h1, h2, n, h3⟩ := h
  obtain ⟨g1, g2, m, g3⟩ := g
  refine ⟨by omega, fun j j0 j1 => ?_, ?_⟩
  · obtain ⟨a1, a2, a3⟩ := h2 j j0 j1
    obtain ⟨b1, b2, b3⟩ := g2 j j0 (by omega)
    exact ⟨b1.trans a1, b2.trans a2, b3.trans a3⟩
  · have h3' := wfP_cg (qk := r.2.1) (qa := r.2.2.1) (qb := r.2.2.2) n lev p.1 q.1 (fun j j0 j1 => g2 j (by omega) j1) h3
    exact wfP_ap g3 (by omega) n _ h3'
theorem qGo.ad {lev : Nat} {p : zPg} {k a b : Int} (h : stOK R k a) : qGo R lev p (qAd k a b p) := by
  have l1 : (qAd k a b p).1 = p.1 + 1 := rfl
  refine ⟨by omega, fun j j0 j1 => ⟨up_n (by omega), up_n (by omega), up_n (by omega)⟩, 1, .inr ⟨by omega, .inr ⟨?_, ?_⟩⟩⟩
  · have e1 : (qAd k a b p).2.1 p.1 = k := up_s
    have e2 : (qAd k a b p).2.2.1 p.1 = a := up_s
    rw [e1, e2]
    exact h
  · show (p.1 : Int) + 1 = ((p.1 + 1 : Nat) : Int)
    omega
theorem qGo.ag {lev : Nat} {p q : zPg} {v : Int} (hv : 0 ≤ v ∧ v ≤ 30) (h : qGo R lev (qAd 5 v 0 p) q) : qGo R (lev + 1) p (qCl p.1 q) := by
  obtain ⟨h1, h2, n, h3⟩ := h
  have l1 : (qAd 5 v 0 p).1 = p.1 + 1 := rfl
  rw [l1] at h1 h2 h3
  obtain ⟨c1, c2, c3⟩ := h2 p.1 (by omega) (by omega)
  have e1 : (qAd 5 v 0 p).2.1 p.1 = 5 := up_s
  have e2 : (qAd 5 v 0 p).2.2.1 p.1 = v := up_s
  rw [e1] at c1
  rw [e2] at c2
  have e3 : (qCl p.1 q).2.2.2 p.1 = q.1 := up_s
  refine ⟨by show p.1 ≤ q.1; omega, fun j j0 j1 => ?_, n + 1, .inr ⟨by show (p.1 : Int) < q.1; omega, .inl ⟨c1, by omega, ?_, ?_, ?_, ?_, ?_, ?_⟩⟩⟩
  · obtain ⟨d1, d2, d3⟩ := h2 j j0 (by omega)
    have f1 : (qAd 5 v 0 p).2.1 j = p.2.1 j := up_n (by omega)
    have f2 : (qAd 5 v 0 p).2.2.1 j = p.2.2.1 j := up_n (by omega)
    have f3 : (qAd 5 v 0 p).2.2.2 j = p.2.2.2 j := up_n (by omega)
    have f4 : (qCl p.1 q).2.2.2 j = q.2.2.2 j := up_n (by omega)
    exact ⟨d1.trans f1, d2.trans f2, f4.trans (d3.trans f3)⟩
  · show 0 ≤ q.2.2.1 p.1
    rw [c2]; exact hv.1
  · show q.2.2.1 p.1 ≤ 30
    rw [c2]; exact hv.2
  · rw [e3]; omega
  · rw [e3]; exact Int.le_refl _
  · rw [e3]
    have e4 : ((p.1 : Int) + 1) = ((p.1 + 1 : Nat) : Int) := by omega
    rw [e4]
    exact wfP_cg n lev _ _ (fun j j0 j1 => ⟨rfl, rfl, up_n (by omega)⟩) h3
  · rw [e3]
    show wfP R _ _ _ n (lev + 1) q.1 q.1
    cases n with
    | zero => exact rfl
    | succ n => exact .inl rfl
variable {T : Int → Int} {n : Int}
/-- what a reader of steps keeps -/
def qOK (R : zR) (n : Int) (lev : Nat) (g : Int) (St : zPp) : Prop := (∀ (a : Int) (p : zPg) (k q : Int), 0 ≤ a → a ≤ n → 4 * (p.1 : Int) ≤ a → St a p = .inl (k, q) → 0 ≤ q ∧ q ≤ n) ∧ ∀ (a : Int) (p : zPg) (e : Int) (p' : zPg), 0 ≤ a → a ≤ n → 4 * (p.1 : Int) ≤ a → St a p = .inr (e, p') → a + g ≤ e ∧ e ≤ n ∧ 4 * (p'.1 : Int) ≤ e + (if g = 3 then 1 else 0) ∧ qGo R lev p p'
theorem wq_l {b e : Int} {i : Nat} (h : wq T b e i) : e = b + (q_strs.getD i []).length := by
  have := h.1
  omega
theorem qAg_l {Rw : zPp} {lev : Nat} {a k q : Int} {p : zPg} (hR : qOK R n lev 0 Rw) (a0 : 3 ≤ a) (a1 : a ≤ n) (ap : 4 * (p.1 : Int) ≤ a - 3) (h : qAg T n Rw a p = .inl (k, q)) : 0 ≤ q ∧ q ≤ n := by
  rcases bd_l h with h | ⟨⟨e1, v⟩, h1, h⟩
  · have := numS_l a1 h
    omega
  have r1 := numS_r a1 h1
  dsimp only at h
  rcases bd_l h with h | ⟨e2, h2, h⟩
  · have := sgnS_l r1.2.1 h
    omega
  have r2 := sgnS_r r1.2.1 h2
  have l1 : ((qAd 5 v 0 p).1 : Int) = p.1 + 1 := by show ((p.1 + 1 : Nat) : Int) = _; omega
  rcases bd_l h with h | ⟨⟨e3, p3⟩, h3, h⟩
  · exact hR.1 _ _ _ _ (by omega) (by omega) (by omega) h
  have r3 := hR.2 _ _ _ _ (by omega) (by omega) (by omega) h3
  dsimp only at h
  rcases bd_l h with h | ⟨e4, h4, h⟩
  · have := sgnS_l r3.2.1 h
    omega
  cases h
theorem qAg_r {Rw : zPp} {lev : Nat} {a e : Int} {p p' : zPg} (hR : qOK R n lev 0 Rw) (a0 : 3 ≤ a) (a1 : a ≤ n) (ap : 4 * (p.1 : Int) ≤ a - 3) (h : qAg T n Rw a p = .inr (e, p')) : a < e ∧ e ≤ n ∧ 4 * (p'.1 : Int) ≤ e ∧ qGo R (lev + 1) p p' := by
  obtain ⟨⟨e1, v⟩, h1, h⟩ := bd_r h
  have r1 := numS_r a1 h1
  dsimp only at h
  obtain ⟨e2, h2, h⟩ := bd_r h
  have r2 := sgnS_r r1.2.1 h2
  have l1 : ((qAd 5 v 0 p).1 : Int) = p.1 + 1 := by show ((p.1 + 1 : Nat) : Int) = _; omega
  obtain ⟨⟨e3, p3⟩, h3, h⟩ := bd_r h
  obtain ⟨p1, p2, p4, p5⟩ := hR.2 _ _ _ _ (by omega) (by omega) (by omega) h3
  dsimp only at h p4 p5
  rw [if_neg (by decide)] at p4
  obtain ⟨e4, h4, h⟩ := bd_r h
  have r4 := sgnS_r p2 h4
  cases h
  refine ⟨by omega, by omega, ?_, p5.ag ⟨r1.2.2.1, r1.2.2.2.1⟩⟩
  show 4 * (p3.1 : Int) ≤ _
  omega
theorem qFl_l {k w a k' q : Int} {p : zPg} (a1 : a ≤ n) (a0 : 0 ≤ a) (h : qFl T n w k a p = .inl (k', q)) : 0 ≤ q ∧ q ≤ n := by
  rcases bd_l h with h | ⟨⟨e1, v⟩, h1, h⟩
  · have := numS_l a1 h
    omega
  have r1 := numS_r a1 h1
  dsimp only at h
  rcases bd_l h with h | ⟨⟨e2, u⟩, h2, h⟩
  · have := numS_l r1.2.1 h
    omega
  cases h
theorem qFl_r {k w a e : Int} {p p' : zPg} {lev : Nat} (hw : w = rW R) (hk : k = 0 ∨ k = 1) (a1 : a ≤ n) (a0 : 0 ≤ a) (h : qFl T n w k a p = .inr (e, p')) : a < e ∧ e ≤ n ∧ p'.1 = p.1 + 1 ∧ qGo R lev p p' := by
  obtain ⟨⟨e1, v⟩, h1, h⟩ := bd_r h
  have r1 := numS_r a1 h1
  dsimp only at h
  obtain ⟨⟨e2, u⟩, h2, h⟩ := bd_r h
  have r2 := numS_r r1.2.1 h2
  cases h
  exact ⟨by omega, by omega, rfl, qGo.ad (.inl ⟨hk, by omega, by omega⟩)⟩
theorem qSt_ok {w : Int} {o : Bool} {Rw : zPp} {lev : Nat} (hw : w = rW R) (hR : o = true → ∃ l, lev = l + 1 ∧ qOK R n l 0 Rw) : qOK R n lev 3 (qSt T n w o Rw) := by
  have L15 : ((q_strs.getD 15 []).length : Int) = 5 := rfl
  have L16 : ((q_strs.getD 16 []).length : Int) = 4 := rfl
  have L9 : ((q_strs.getD 9 []).length : Int) = 4 := rfl
  have L17 : ((q_strs.getD 17 []).length : Int) = 5 := rfl
  have L13 : ((q_strs.getD 13 []).length : Int) = 3 := rfl
  have L18 : ((q_strs.getD 18 []).length : Int) = 5 := rfl
  refine ⟨fun a p k q a0 a1 ap h => ?_, fun a p e p' a0 a1 ap h => ?_⟩
  · have sb := sk_b (T := T) a1
    have dg := gE_b (q := qL' T) sb.2
    unfold qSt at h
    split at h
    · exact qFl_l dg.2.1 (by omega) h
    split at h
    · exact qFl_l dg.2.1 (by omega) h
    split at h
    · rcases bd_l h with h | ⟨⟨e1, v⟩, h1, h⟩
      · have := numS_l dg.2.1 h
        omega
      · cases h
    split at h
    · cases h
    split at h
    · cases h
    split at h
    · rename_i w18
      have wl := wq_l w18
      rw [L18] at wl
      split at h
      · rename_i ho
        obtain ⟨l, hl, hR⟩ := hR ho
        exact qAg_l hR (by omega) dg.2.1 (by omega) h
      · cases h
        omega
    · cases h
      omega
  · have sb := sk_b (T := T) a1
    have dg := gE_b (q := qL' T) sb.2
    rw [if_pos rfl]
    unfold qSt at h
    split at h
    · rename_i wx
      have wl := wq_l wx
      rw [L15] at wl
      have r := qFl_r (lev := lev) hw (.inl rfl) dg.2.1 (by omega) h
      exact ⟨by omega, r.2.1, by omega, r.2.2.2⟩
    split at h
    · rename_i wx
      have wl := wq_l wx
      rw [L16] at wl
      have r := qFl_r (lev := lev) hw (.inr rfl) dg.2.1 (by omega) h
      exact ⟨by omega, r.2.1, by omega, r.2.2.2⟩
    split at h
    · rename_i wx
      have wl := wq_l wx
      rw [L9] at wl
      obtain ⟨⟨e1, v⟩, h1, h⟩ := bd_r h
      have r := numS_r dg.2.1 h1
      dsimp only at h
      cases h
      have l1 : ((qAd 2 v 0 p).1 : Int) = p.1 + 1 := by show ((p.1 + 1 : Nat) : Int) = _; omega
      exact ⟨by omega, r.2.1, by omega, qGo.ad (.inr (.inl ⟨rfl, r.2.2.1, r.2.2.2.1⟩))⟩
    split at h
    · rename_i wx
      have wl := wq_l wx
      rw [L17] at wl
      cases h
      have l1 : ((qAd 3 0 0 p).1 : Int) = p.1 + 1 := by show ((p.1 + 1 : Nat) : Int) = _; omega
      exact ⟨by omega, dg.2.1, by omega, qGo.ad (.inr (.inr (.inl rfl)))⟩
    split at h
    · rename_i wx
      have wl := wq_l wx
      rw [L13] at wl
      cases h
      have l1 : ((qAd 4 0 0 p).1 : Int) = p.1 + 1 := by show ((p.1 + 1 : Nat) : Int) = _; omega
      exact ⟨by omega, dg.2.1, by omega, qGo.ad (.inr (.inr (.inr rfl)))⟩
    split at h
    · rename_i wx
      have wl := wq_l wx
      rw [L18] at wl
      split at h
      · rename_i ho
        obtain ⟨l, hl, hR⟩ := hR ho
        have r := qAg_r hR (by omega) dg.2.1 (by omega) h
        subst hl
        exact ⟨by omega, r.2.1, by omega, r.2.2.2⟩
      · cases h
    · cases h
theorem qSs_ok {St : zPp} {lev : Nat} (hS : qOK R n lev 3 St) : qOK R n lev 4 (qSs T n St) := by
  refine ⟨fun a p k q a0 a1 ap h => ?_, fun a p e p' a0 a1 ap h => ?_⟩
  · rcases bd_l h with h | ⟨⟨e1, p1⟩, h1, h⟩
    · exact hS.1 _ _ _ _ a0 a1 ap h
    have r1 := hS.2 _ _ _ _ a0 a1 ap h1
    dsimp only at h
    rcases bd_l h with h | ⟨e2, h2, h⟩
    · have := sgnS_l r1.2.1 h
      omega
    cases h
  · obtain ⟨⟨e1, p1⟩, h1, h⟩ := bd_r h
    obtain ⟨r1, r2, r3, r4⟩ := hS.2 _ _ _ _ a0 a1 ap h1
    dsimp only at h
    obtain ⟨e2, h2, h⟩ := bd_r h
    have r5 := sgnS_r r2 h2
    cases h
    rw [if_pos rfl] at r3
    rw [if_neg (by decide)]
    exact ⟨by omega, by omega, by omega, r4⟩
theorem qRw_ok {St : zPp} {lev : Nat} {z : Bool} (hS : qOK R n lev 4 (qSs T n St)) : ∀ (m : Nat) (a : Int) (p : zPg), 0 ≤ a → a ≤ n → 4 * (p.1 : Int) ≤ a → (n - a).toNat < m → (∀ k q, qRw T n z St m a p = .inl (k, q) → 0 ≤ q ∧ q ≤ n) ∧ ∀ e p', qRw T n z St m a p = .inr (e, p') → a ≤ e ∧ e ≤ n ∧ 4 * (p'.1 : Int) ≤ e ∧ qGo R lev p p' := by
  intro m
  induction m with
  | zero => intro a p a0 a1 ap hm; omega
  | succ m ih =>
    intro a p a0 a1 ap hm
    have sb := sk_b (T := T) a1
    unfold qRw
    split
    · refine ⟨fun k q h => (by cases h), fun e p' h => ?_⟩
      cases h
      exact ⟨sb.1, sb.2, by omega, qGo.rf⟩
    · refine ⟨fun k q h => ?_, fun e p' h => ?_⟩
      · rcases bd_l h with h | ⟨⟨e1, p1⟩, h1, h⟩
        · exact hS.1 _ _ _ _ a0 a1 ap h
        obtain ⟨r1, r2, r3, r4⟩ := hS.2 _ _ _ _ a0 a1 ap h1
        rw [if_neg (by decide)] at r3
        exact (ih e1 p1 (by omega) r2 (by omega) (by omega)).1 _ _ h
      · obtain ⟨⟨e1, p1⟩, h1, h⟩ := bd_r h
        obtain ⟨r1, r2, r3, r4⟩ := hS.2 _ _ _ _ a0 a1 ap h1
        rw [if_neg (by decide)] at r3
        obtain ⟨s1, s2, s3, s4⟩ := (ih e1 p1 (by omega) r2 (by omega) (by omega)).2 _ _ h
        exact ⟨by omega, s2, s3, r4.tr s4⟩
theorem qv_ok {w : Int} (hn : n ≤ 150) (hw : w = rW R) : ∀ l : Nat, qOK R n l 3 (qv T n w l)
  | 0 => qSt_ok hw (fun h => by cases h)
  | l + 1 => qSt_ok hw (fun _ => ⟨l, rfl, by
      have ih := qRw_ok (z := true) (qSs_ok (T := T) (qv_ok hn hw l)) 151
      refine ⟨fun a p k q a0 a1 ap h => (ih a p a0 a1 ap (by omega)).1 _ _ h, fun a p e p' a0 a1 ap h => ?_⟩
      obtain ⟨s1, s2, s3, s4⟩ := (ih a p a0 a1 ap (by omega)).2 _ _ h
      rw [if_neg (by decide)]
      exact ⟨by omega, s2, by omega, s4⟩⟩)
end PW
