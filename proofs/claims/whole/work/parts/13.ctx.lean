def q_kd : List Nat := [2, 0, 0, 0, 0, 0, 0, 0, 0, 0, 0, 0, 0, 0, 0, 0, 0, 0, 2, 0, 0, 0, 0, 0, 0, 0, 0, 0, 0, 0, 0, 0, 0, 0, 0, 0, 0, 0, 0, 0, 0, 0, 0, 0, 0, 2, 0, 0, 0, 0, 0, 0, 0, 0, 2, 0, 0, 0, 0, 0, 0, 0, 2, 2, 0, 0, 0, 0, 0, 0, 1, 0, 0, 1, 2, 0, 0, 0, 0, 0, 0, 0, 0, 0, 0, 0, 0, 2, 0, 0, 2, 0, 0, 0, 0, 0, 0, 0, 0, 1, 2, 0, 0, 0, 0, 0, 0, 0, 0, 0, 0, 0, 2, 0, 0, 0, 0, 0, 0, 0, 0, 0, 0, 0, 0, 0, 0, 0, 0, 0, 0, 0, 0, 0, 0, 0, 0, 0, 0, 0, 0, 0, 0, 0, 0, 0, 0, 0, 0, 0, 0, 0, 0, 0, 0, 0, 0, 0, 0, 0, 0, 0, 0, 0, 0, 1, 2, 0, 0, 0, 0, 1, 1, 0, 1, 0, 0, 0, 0, 0, 0, 0, 0, 0, 0, 1, 0, 0, 0, 0, 0, 0, 0, 0, 0, 0, 0, 0, 0, 1, 0, 0, 0, 0, 0, 0, 0, 0, 0, 0, 0, 0, 0, 0, 0, 0, 0, 0, 0, 0, 0, 0, 0, 0, 0, 0, 0, 0, 0, 0, 0, 0, 0, 0, 0, 1, 0, 0, 0, 0, 0, 0, 0, 0, 0, 0, 0, 1, 0, 0, 0, 0, 0, 0, 0, 0, 0, 0, 0, 0, 0, 0, 0, 0, 0, 0, 0, 0, 0, 0, 0, 0, 1, 0, 0, 0, 0, 0, 0, 0, 0, 3, 3, 3, 3, 3, 3, 3, 3, 3, 3, 3, 3, 3, 3, 3, 3, 3, 3, 3, 3, 3, 3, 3, 3, 3, 3, 3, 3, 9, 1]
def q_txt : List String := ["house", "wink", "cup", "felt", "nap", "least", "most", "press", "size", "damp", "under", "shots", "cell", "day", "coins", "flick", "back", "shake", "again"]
/-- the words that stay: good ones of the tables -/
def q_Ws : List Cond := lw_tbl.filter goodWord
def q_isN (w : Cond) : Bool := match w with
  | .fieldLinkNest .. => true
  | .methodLinkNest .. => true
  | .castable .. => true
  | .declares .. => true
  | _ => false
def q_Nw : List Cond := lw_tbl.filter q_isN
def q_cn (ci : Nat) : String := (q_cl.getD ci ("", q_T0, 0)).1
def q_ft (ci f : Nat) : String × String × String × Bool := (q_cl.getD ci ("", q_T0, 0)).2.1 f
noncomputable def q_mn (mi : Nat) : MethodName := (q_mi.getD mi (⟨"", "", ""⟩, code, none)).1
def q_exn : Nat → String
  | 0 => "java/util/NoSuchElementException"
  | _ => "java/lang/IllegalArgumentException"
/-- the word of a link -/
noncomputable def q_lw (own : String) (i : Nat) (k : qL) : Cond := match k with
  | (0, ci, f, _) => .fieldLink own i (q_cn ci) (q_ft ci f).2.1 (q_ft ci f).2.2.1
  | (1, ci, f, _) => .fieldLinkNest own i (q_cn ci) (q_ft ci f).2.1 (q_ft ci f).2.2.1 "WinkBank"
  | (2, mi, _, _) => .methodLink own i (q_mn mi)
  | (3, mi, _, _) => .methodLink own i (q_mn mi)
  | (4, mi, _, _) => .methodLink own i (q_mn mi)
  | (17, mi, _, _) => .methodLinkNest own i (q_mn mi) "WinkBank"
  | (5, _, _, _) => .methodLink own i ⟨"java/lang/String", "length", "()I"⟩
  | (6, _, _, _) => .methodLink own i ⟨"java/lang/String", "charAt", "(I)C"⟩
  | (7, _, _, _) => .methodLink own i Lib.Math.max.name
  | (8, _, _, _) => .methodLink own i Lib.Math.min.name
  | (9, _, _, _) => .methodLink own i arraycopyName
  | (10, _, _, _) => .methodLink own i Lib.objectInit
  | (11, ci, _, _) => .classLink own i (q_cn ci)
  | (12, E, _, _) => .classLink own i (q_exn E)
  | (13, _, _, _) => .classLink own i "WinkBank$Kept"
  | (14, v, _, _) => .constant own i (Int32.ofNat v)
  | (15, j, _, _) => .stringRef own i (q_txt.getD j "")
  | (16, _, _, _) => .fieldLink own i "WinkBank$Law" "PLAIN" "[I"
  | _ => .tt
/-- where texts are named: class, entry, text, number -/
def q_sref : List (String × Nat × String × Nat) := [("WinkBank$Room", 83, "house", 0), ("WinkBank$Room", 97, "wink", 1), ("WinkBank$Room", 102, "cup", 2), ("WinkBank$Room", 107, "felt", 3), ("WinkBank$Room", 111, "nap", 4), ("WinkBank$Law", 91, "least", 5), ("WinkBank$Law", 100, "most", 6), ("WinkBank$Law", 106, "press", 7), ("WinkBank$Law", 108, "size", 8), ("WinkBank$Law", 110, "nap", 4), ("WinkBank$Law", 112, "damp", 9), ("WinkBank$Law", 114, "under", 10), ("WinkBank$Law", 116, "shots", 11), ("WinkBank$Law", 118, "cell", 12), ("WinkBank$Law", 120, "day", 13), ("WinkBank$Law", 122, "coins", 14), ("WinkBank$Steps", 49, "flick", 15), ("WinkBank$Steps", 58, "back", 16), ("WinkBank$Steps", 60, "damp", 9), ("WinkBank$Steps", 73, "shake", 17), ("WinkBank$Steps", 75, "day", 13), ("WinkBank$Steps", 77, "again", 18), ("WinkBankModel", 206, "house", 0), ("WinkBankModel", 212, "felt", 3), ("WinkBankModel", 213, "nap", 4), ("WinkBankModel", 214, "wink", 1), ("WinkBankModel", 215, "cup", 2), ("WinkBankModel", 288, "least", 5), ("WinkBankModel", 293, "most", 6), ("WinkBankModel", 274, "press", 7), ("WinkBankModel", 276, "size", 8), ("WinkBankModel", 277, "damp", 9), ("WinkBankModel", 279, "under", 10), ("WinkBankModel", 281, "shots", 11), ("WinkBankModel", 283, "cell", 12), ("WinkBankModel", 285, "day", 13), ("WinkBankModel", 287, "coins", 14), ("WinkBankModel", 308, "shake", 17), ("WinkBankModel", 314, "flick", 15), ("WinkBankModel", 316, "back", 16), ("WinkBankModel", 318, "again", 18)]
def q_sln : List Nat := [5, 4, 3, 4, 3, 5, 4, 5, 4, 4, 5, 5, 4, 3, 5, 5, 4, 5, 5]
def q_sby : List (List Int32) := [[104, 111, 117, 115, 101], [119, 105, 110, 107], [99, 117, 112], [102, 101, 108, 116], [110, 97, 112], [108, 101, 97, 115, 116], [109, 111, 115, 116], [112, 114, 101, 115, 115], [115, 105, 122, 101], [100, 97, 109, 112], [117, 110, 100, 101, 114], [115, 104, 111, 116, 115], [99, 101, 108, 108], [100, 97, 121], [99, 111, 105, 110, 115], [102, 108, 105, 99, 107], [98, 97, 99, 107], [115, 104, 97, 107, 101], [97, 103, 97, 105, 110]]
/-- the texts: Latin-1, with their bytes -/
def xk_S (ad adV : Nat → Nat) (A : Nat → Prop) (U : State) (H : Heap) : Prop := ∀ i : Nat, i < 19 → va_O "java/lang/String" (ad i) A U H ∧ va_OF "java/lang/String" "coder" "B" (.int 0) (ad i) A U H ∧ va_OF "java/lang/String" "value" "[B" (.ref (adV i)) (ad i) A U H ∧ va_T .byte (adV i) (q_sln.getD i 0) (fun j => .int ((q_sby.getD i []).getD j 0)) A U H
theorem xk_S.moved {ad adV : Nat → Nat} {A : Nat → Prop} {u U : State} {H : Heap} (hvm : u.vm.Alike U.vm) (h : xk_S ad adV A u H) : xk_S ad adV A U H := fun i hi => ⟨va_O.moved hvm (h i hi).1, va_OF.moved hvm (h i hi).2.1, va_OF.moved hvm (h i hi).2.2.1, va_T.moved hvm (h i hi).2.2.2⟩
theorem xk_S.kept {ad adV : Nat → Nat} {A : Nat → Prop} {U : State} {H H1 : Heap} (h : xk_S ad adV A U H) (hq : ∀ a : Nat, a < H.size → ¬ A a → H1[a]? = H[a]?) : xk_S ad adV A U H1 := fun i hi => ⟨(h i hi).1.kept hq, (h i hi).2.1.kept hq, (h i hi).2.2.1.kept hq, (h i hi).2.2.2.kept hq⟩
theorem xk_recv {ad adV : Nat → Nat} {A : Nat → Prop} {s : State} {H : Heap} {locs : List Loc} {i : Nat} (hE : xk_S ad adV A s s.heap) (hi : i < 19) (hS : va_S A s.heap H locs) : ∃ cell : Cell, H[ad i]? = some cell ∧ cell.vm.isStatics = false ∧ s.vm.findClass "java/lang/String" = some cell.cls := by
  obtain ⟨cell, h1, h2, h3, h4⟩ := (hE i hi).1
  exact ⟨cell, by rw [hS.2.1 _ (Array.getElem?_eq_some_iff.mp h1).1 h4]; exact h1, h2, h3⟩
/-- what stays true of the machine: classes, links of nest mates, the script, PLAIN, what a throw needs, the texts -/
def x_G (X : qX) (U : State) (H : Heap) : Prop :=
  va_K (x_D X) q_cl (x_tys X) U ∧ (∀ w ∈ q_Nw, va_Nw w U) ∧ va_T .int X.2.1 X.2.2.2.2.2.2.2.1 (fun j => .int (X.2.2.2.2.2.2.2.2 j)) (x_A X) U H ∧ va_T .int X.2.2.1 9 (fun j => .int (q_plain j)) (x_A X) U H ∧ X.2.1 < X.1 ∧ X.2.2.1 < X.1 ∧
  va_Z "WinkBank$Law" "PLAIN" "[I" (.ref X.2.2.1) (x_A X) U H ∧ vx_Zq Bundle.tN "UNASSIGNED_STACK" Bundle.steD (x_A X) U H ∧ vx_Zq Bundle.tN "SUPPRESSED_SENTINEL" Bundle.listD (x_A X) U H ∧
  (va_Nc "java/lang/IllegalArgumentException" "java/util/NoSuchElementException" U ∧ va_Nc "java/util/NoSuchElementException" "java/lang/IllegalArgumentException" U) ∧ (∀ q ∈ q_sref, vk_R q.1 q.2.1 q.2.2.1 (X.2.2.2.1 q.2.2.2) U) ∧ va_AO "WinkBank$Kept" U ∧ va_Z "java/lang/String" "COMPACT_STRINGS" "Z" (.int 1) (x_A X) U H ∧ va_Zq "jdk/internal/util/Preconditions" "SIOOBE_FORMATTER" "Ljava/util/function/BiFunction;" (x_A X) U H ∧ ∃ adV : Nat → Nat, xk_S X.2.2.2.1 adV (x_A X) U H
theorem xn_warm {s U : State} (hW : s.WarmedH U.vm) (h : ∀ w ∈ q_Nw, va_Nw w s) : ∀ w ∈ q_Nw, va_Nw w U := by
  intro w hw
  have h1 := h w hw
  have h2 : q_isN w = true := (List.mem_filter.mp hw).2
  cases w <;> first | (exact va_Nw.warmF hW h1) | (exact va_Nw.warmM hW h1) | (exact va_Nw.warmC hW h1) | (exact va_Nw.warmD hW h1) | (exact absurd h2 (by intro q; cases q))
theorem x_G.moved {X : qX} {s U : State} {H H1 : Heap} (h : x_G X s H) (hW : s.WarmedH U.vm) (hz : X.1 ≤ H.size) (hq : ∀ q : Nat, q < X.1 → H1[q]? = H[q]?) : x_G X U H1 := by
  obtain ⟨a1, a2, a3, a4, a5, a6, a7, a8, a9, a10, a11, a13, a14, a15, adV, a12⟩ := h
  have hq' : ∀ a : Nat, a < H.size → ¬ x_A X a → H1[a]? = H[a]? := fun a _ ha => hq a (Nat.not_le.mp ha)
  exact ⟨va_K.moved hW.alike a1, xn_warm hW a2, (va_T.moved hW.alike a3).kept hq', (va_T.moved hW.alike a4).kept hq', a5, a6, (va_Z.moved hW.alike a7).kept hq', (vx_Zq.moved hW.alike a8).kept hq', (vx_Zq.moved hW.alike a9).kept hq',
    ⟨va_Nc.moved hW.alike a10.1, va_Nc.moved hW.alike a10.2⟩, fun q hq0 => vk_R.warm hW (a11 q hq0), va_AO.moved hW.alike a13, (va_Z.moved hW.alike a14).kept hq', (va_Zq.moved hW.alike a15).kept hq', adV, (xk_S.moved hW.alike a12).kept hq'⟩
/-- the locals -/
def x_L (X : qX) (nL : Nat) (ls : Array Slot) (L : List Value) : Prop := ls.size = nL ∧ lv_wf ls ∧ L.length = nL ∧ ∀ (i : Nat) (v : Value), L[i]? = some v → v.category = 1 → ls[i]? = some (.val (x_cv X v))
def x_lv (X : qX) (L : List Value) : List (Nat × Value) := (List.range L.length).filterMap fun i => match L[i]? with
  | some v => if v.category = 1 then some (i, x_cv X v) else none
  | none => none
theorem x_lv_in {X : qX} {L : List Value} {i : Nat} {v : Value} (h : L[i]? = some v) (hc : v.category = 1) : (i, x_cv X v) ∈ x_lv X L := by
  refine List.mem_filterMap.mpr ⟨i, List.mem_range.mpr (List.getElem?_eq_some_iff.mp h).1, ?_⟩
  rw [h]
  simp [hc]
theorem x_L.has {X : qX} {nL : Nat} {ls : Array Slot} {L : List Value} (h : x_L X nL ls L) : lv_has ls nL (x_lv X L) := by
  refine ⟨h.1, h.2.1, fun q hq => ?_⟩
  obtain ⟨i, -, hi⟩ := List.mem_filterMap.mp hq
  split at hi
  · rename_i v hv
    split at hi
    · rename_i hc
      cases hi
      exact h.2.2.2 i v hv hc
    · cases hi
  · cases hi
theorem x_L.sto {X : qX} {nL : Nat} {ls ls' : Array Slot} {L : List Value} {i : Nat} {w v : Value} (h : x_L X nL ls L) (h1 : lv_has ls' nL ((i, w) :: (x_lv X L).filter (fun q => !(q.1 == i) && !(q.1 + 1 == i && q.2.category == 2)))) (hv : v.category = 1 → w = x_cv X v) : x_L X nL ls' (L.set i v) := by
  refine ⟨h1.1, h1.2.1, by rw [List.length_set]; exact h.2.2.1, fun j u hj hc => ?_⟩
  by_cases hji : j = i
  · subst hji
    have hl : j < L.length := by
      have := (List.getElem?_eq_some_iff.mp hj).1
      rwa [List.length_set] at this
    rw [List.getElem?_set_self hl] at hj
    cases hj
    rw [← hv hc]
    exact h1.2.2 (j, w) List.mem_cons_self
  · rw [List.getElem?_set_ne (fun q => hji q.symm)] at hj
    refine h1.2.2 (j, x_cv X u) (List.mem_cons_of_mem _ (List.mem_filter.mpr ⟨x_lv_in hj hc, ?_⟩))
    have : (x_cv X u).category = 1 := x_cat.trans hc
    simp [hji, this]
