/-! What it says that an instruction went on. -/
theorem iv_obj {h : qH} {v : Value} {ci : Nat} {k : Nat → List Value → qR} {r : qO × qH} (e : q_obj h v ci k = some r) : ∃ a fs, v = .ref a ∧ h[a]? = some (.inr (ci, fs)) ∧ k a fs = some r := by
  unfold q_obj at e
  split at e
  · rename_i a
    split at e
    · rename_i c fs he
      split at e
      · rename_i hc
        subst hc
        exact ⟨a, fs, rfl, he, e⟩
      · cases e
    · cases e
  · cases e
theorem iv_gI {h : qH} {v : Value} {ci f : Nat} {k : Int32 → qR} {r : qO × qH} (e : q_gI h v ci f k = some r) : ∃ a fs x, v = .ref a ∧ h[a]? = some (.inr (ci, fs)) ∧ fs[f]? = some (.int x) ∧ k x = some r := by
  obtain ⟨a, fs, hv, he, e⟩ := iv_obj e
  split at e
  · rename_i x hx
    exact ⟨a, fs, x, hv, he, hx, e⟩
  · cases e
theorem iv_gR {h : qH} {v : Value} {ci f : Nat} {k : Nat → qR} {r : qO × qH} (e : q_gR h v ci f k = some r) : ∃ a fs x, v = .ref a ∧ h[a]? = some (.inr (ci, fs)) ∧ fs[f]? = some (.ref x) ∧ k x = some r := by
  obtain ⟨a, fs, hv, he, e⟩ := iv_obj e
  split at e
  · rename_i x hx
    exact ⟨a, fs, x, hv, he, hx, e⟩
  · cases e
theorem iv_gN {h : qH} {v : Value} {ci f : Nat} {k0 : qR} {k1 : Nat → qR} {r : qO × qH} (e : q_gN h v ci f k0 k1 = some r) : ∃ a fs x, v = .ref a ∧ h[a]? = some (.inr (ci, fs)) ∧ fs[f]? = some x ∧ ((x = .null ∧ k0 = some r) ∨ ∃ b, x = .ref b ∧ k1 b = some r) := by
  obtain ⟨a, fs, hv, he, e⟩ := iv_obj e
  split at e
  · rename_i hx
    exact ⟨a, fs, _, hv, he, hx, Or.inl ⟨rfl, e⟩⟩
  · rename_i x hx
    exact ⟨a, fs, _, hv, he, hx, Or.inr ⟨x, rfl, e⟩⟩
  · cases e
theorem iv_pV {h : qH} {v : Value} {ci f : Nat} {w : Value} {k : qH → qR} {r : qO × qH} (e : q_pV h v ci f w k = some r) : ∃ a fs, v = .ref a ∧ h[a]? = some (.inr (ci, fs)) ∧ 2 ≤ a ∧ f < fs.length ∧ k (h.set a (.inr (ci, fs.set f w))) = some r := by
  obtain ⟨a, fs, hv, he, e⟩ := iv_obj e
  split at e
  · rename_i hc
    exact ⟨a, fs, hv, he, hc.1, hc.2, e⟩
  · cases e
theorem iv_arr {h : qH} {v : Value} {t : Nat} {k : Nat → Nat → (Nat → Int32) → qR} {r : qO × qH} (e : q_arr h v t k = some r) : ∃ a n f, v = .ref a ∧ h[a]? = some (.inl (t, n, .inl f)) ∧ k a n f = some r := by
  unfold q_arr at e
  split at e
  · rename_i a
    split at e
    · rename_i c n f he
      split at e
      · rename_i hc
        subst hc
        exact ⟨a, n, f, rfl, he, e⟩
      · cases e
    · cases e
  · cases e
theorem iv_ald {h : qH} {v : Value} {t : Nat} {i : Int32} {k : Int32 → qR} {r : qO × qH} (e : q_ald h v t i k = some r) : ∃ a n f, v = .ref a ∧ h[a]? = some (.inl (t, n, .inl f)) ∧ q_in i n = true ∧ k (f i.toNatClampNeg) = some r := by
  obtain ⟨a, n, f, hv, he, e⟩ := iv_arr e
  split at e
  · rename_i hc
    exact ⟨a, n, f, hv, he, hc, e⟩
  · cases e
theorem iv_ast {h : qH} {v : Value} {t : Nat} {i x : Int32} {k : qH → qR} {r : qO × qH} (e : q_ast h v t i x k = some r) : ∃ a n f, v = .ref a ∧ h[a]? = some (.inl (t, n, .inl f)) ∧ 2 ≤ a ∧ q_in i n = true ∧ k (h.set a (.inl (t, n, .inl (upd f i.toNatClampNeg x)))) = some r := by
  obtain ⟨a, n, f, hv, he, e⟩ := iv_arr e
  split at e
  · rename_i hc
    exact ⟨a, n, f, hv, he, hc.1, hc.2, e⟩
  · cases e
theorem iv_bld {h : qH} {v : Value} {i : Int32} {k : Int32 → qR} {r : qO × qH} (e : q_bld h v i k = some r) : ∃ a t n f, v = .ref a ∧ h[a]? = some (.inl (t, n, .inl f)) ∧ (t = 2 ∨ t = 3) ∧ q_in i n = true ∧ k (f i.toNatClampNeg) = some r := by
  unfold q_bld at e
  split at e
  · rename_i a
    split at e
    · rename_i c n f he
      split at e
      · rename_i hc
        exact ⟨a, c, n, f, rfl, he, hc.1, hc.2, e⟩
      · cases e
    · cases e
  · cases e
theorem iv_bst {h : qH} {v : Value} {i x : Int32} {k : qH → qR} {r : qO × qH} (e : q_bst h v i x k = some r) : ∃ a t n f, v = .ref a ∧ h[a]? = some (.inl (t, n, .inl f)) ∧ 2 ≤ a ∧ (t = 2 ∨ (t = 3 ∧ (x = 0 ∨ x = 1))) ∧ q_in i n = true ∧ k (h.set a (.inl (t, n, .inl (upd f i.toNatClampNeg (if t = 2 then vp_nar .byte x else x))))) = some r := by
  unfold q_bst at e
  split at e
  · rename_i a
    split at e
    · rename_i c n f he
      split at e
      · rename_i hc
        exact ⟨a, c, n, f, rfl, he, hc.1, hc.2.1, hc.2.2, e⟩
      · cases e
    · cases e
  · cases e
theorem iv_lld {h : qH} {v : Value} {i : Int32} {k : Int64 → qR} {r : qO × qH} (e : q_lld h v i k = some r) : ∃ a n f, v = .ref a ∧ h[a]? = some (.inl (1, n, .inr (.inl f))) ∧ q_in i n = true ∧ k (f i.toNatClampNeg) = some r := by
  unfold q_lld at e
  split at e
  · rename_i a
    split at e
    · rename_i c n f he
      split at e
      · rename_i hc
        obtain ⟨rfl, hc⟩ := hc
        exact ⟨a, n, f, rfl, he, hc, e⟩
      · cases e
    · cases e
  · cases e
theorem iv_lst {h : qH} {v : Value} {i : Int32} {x : Int64} {k : qH → qR} {r : qO × qH} (e : q_lst h v i x k = some r) : ∃ a n f, v = .ref a ∧ h[a]? = some (.inl (1, n, .inr (.inl f))) ∧ 2 ≤ a ∧ q_in i n = true ∧ k (h.set a (.inl (1, n, .inr (.inl (vp_updL f i.toNatClampNeg x))))) = some r := by
  unfold q_lst at e
  split at e
  · rename_i a
    split at e
    · rename_i c n f he
      split at e
      · rename_i hc
        obtain ⟨ha, rfl, hc⟩ := hc
        exact ⟨a, n, f, rfl, he, ha, hc, e⟩
      · cases e
    · cases e
  · cases e
theorem iv_rld {h : qH} {v : Value} {i : Int32} {k0 : qR} {k1 : Nat → qR} {r : qO × qH} (e : q_rld h v i k0 k1 = some r) : ∃ a n f, v = .ref a ∧ h[a]? = some (.inl (4, n, .inr (.inr (.inr (.inr f))))) ∧ q_in i n = true ∧ ((f i.toNatClampNeg = none ∧ k0 = some r) ∨ ∃ b, f i.toNatClampNeg = some b ∧ k1 b = some r) := by
  unfold q_rld at e
  split at e
  · rename_i a
    split at e
    · rename_i c n f he
      split at e
      · rename_i hc
        obtain ⟨rfl, hc⟩ := hc
        split at e
        · rename_i hf
          exact ⟨a, n, f, rfl, he, hc, Or.inl ⟨hf, e⟩⟩
        · rename_i b hf
          exact ⟨a, n, f, rfl, he, hc, Or.inr ⟨b, hf, e⟩⟩
      · cases e
    · cases e
  · cases e
theorem iv_rst {h : qH} {v : Value} {i : Int32} {w : Value} {k : qH → qR} {r : qO × qH} (e : q_rst h v i w k = some r) : ∃ a b n f fs, v = .ref a ∧ w = .ref b ∧ h[a]? = some (.inl (4, n, .inr (.inr (.inr (.inr f))))) ∧ 2 ≤ a ∧ q_in i n = true ∧ h[b]? = some (.inr (4, fs)) ∧ k (h.set a (.inl (4, n, .inr (.inr (.inr (.inr (va_up f i.toNatClampNeg (some b)))))))) = some r := by
  unfold q_rst at e
  split at e
  · rename_i a b
    split at e
    · rename_i c n f he
      split at e
      · rename_i hc
        obtain ⟨ha, rfl, hc⟩ := hc
        split at e
        · rename_i fs hb
          exact ⟨a, b, n, f, fs, rfl, rfl, he, ha, hc, hb, e⟩
        · cases e
      · cases e
    · cases e
  · cases e
theorem iv_len {h : qH} {v : Value} {k : Int32 → qR} {r : qO × qH} (e : q_len h v k = some r) : ∃ a t x, v = .ref a ∧ h[a]? = some (.inl (t, x)) ∧ t < 5 ∧ k (Int32.ofNat x.1) = some r := by
  unfold q_len at e
  split at e
  · rename_i a
    split at e
    · rename_i c n x he
      split at e
      · rename_i hc
        exact ⟨a, c, (n, x), rfl, he, hc, e⟩
      · cases e
    · cases e
  · cases e
theorem iv_cpy {h : qH} {sv dv : Value} {sp dp n : Int32} {k : qH → qR} {r : qO × qH} (e : q_cpy h sv sp dv dp n k = some r) : ∃ a ns f b nd g, sv = .ref a ∧ h[a]? = some (.inl (0, ns, .inl f)) ∧ dv = .ref b ∧ h[b]? = some (.inl (0, nd, .inl g)) ∧ a ≠ b ∧ 2 ≤ b ∧ 0 ≤ sp ∧ 0 ≤ dp ∧ 0 ≤ n ∧ sp.toNatClampNeg + n.toNatClampNeg ≤ ns ∧ dp.toNatClampNeg + n.toNatClampNeg ≤ nd ∧
    k (h.set b (.inl (0, nd, .inl (va_cpy f g sp.toNatClampNeg dp.toNatClampNeg n.toNatClampNeg)))) = some r := by
  obtain ⟨a, ns, f, hv, he, e⟩ := iv_arr e
  obtain ⟨b, nd, g, hv2, he2, e2⟩ := iv_arr e
  split at e2
  · rename_i hc
    clear e
    subst hv
    subst hv2
    exact ⟨a, ns, f, b, nd, g, rfl, he, rfl, he2, fun q => hc.1 (by rw [q]), hc.2.1, hc.2.2.1, hc.2.2.2.1, hc.2.2.2.2.1, hc.2.2.2.2.2.1, hc.2.2.2.2.2.2, e2⟩
  · cases e2
theorem iv_nar {h : qH} {t : Nat} {n : Int32} {k : Nat → qH → qR} {r : qO × qH} (e : q_nar h t n k = some r) : 0 ≤ n ∧ n.toNatClampNeg ≤ 100000 ∧ k h.length (h ++ [q_mk t n.toNatClampNeg]) = some r := by
  unfold q_nar at e
  split at e
  · rename_i hc
    exact ⟨hc.1, hc.2, e⟩
  · cases e
theorem iv_boo {b : Bool} {x : Int32} {k : Int32 → qR} {r : qO × qH} (e : q_boo b x k = some r) : k x = some r ∧ (b = true → x = 0 ∨ x = 1) := by
  unfold q_boo at e
  split at e
  · exact ⟨e, fun h => by cases h⟩
  · split at e
    · rename_i hx
      subst hx
      exact ⟨e, fun _ => Or.inl rfl⟩
    · split at e
      · rename_i hx
        subst hx
        exact ⟨e, fun _ => Or.inr rfl⟩
      · cases e
theorem iv_nul {v : Value} {k0 k1 : qR} {r : qO × qH} (e : q_nul v k0 k1 = some r) : (v = .null ∧ k0 = some r) ∨ (((∃ a, v = .ref a) ∨ ∃ i, v = .float i) ∧ k1 = some r) := by
  unfold q_nul at e
  split at e
  · exact Or.inl ⟨rfl, e⟩
  · exact Or.inr ⟨Or.inl ⟨_, rfl⟩, e⟩
  · exact Or.inr ⟨Or.inr ⟨_, rfl⟩, e⟩
  · cases e
theorem iv_rV {r : qR} {kx : Nat → Nat → qH → qR} {k : qH → qR} {o : qO × qH} (e : q_rV r kx k = some o) : (∃ h, r = some (.inl none, h) ∧ k h = some o) ∨ ∃ E q h, r = some (.inr (E, q), h) ∧ kx E q h = some o := by
  unfold q_rV at e
  split at e
  · exact Or.inl ⟨_, rfl, e⟩
  · exact Or.inr ⟨_, _, _, rfl, e⟩
  · cases e
theorem iv_rI {r : qR} {kx : Nat → Nat → qH → qR} {k : Int32 → qH → qR} {o : qO × qH} (e : q_rI r kx k = some o) : (∃ x h, r = some (.inl (some (.int x)), h) ∧ k x h = some o) ∨ ∃ E q h, r = some (.inr (E, q), h) ∧ kx E q h = some o := by
  unfold q_rI at e
  split at e
  · exact Or.inl ⟨_, _, rfl, e⟩
  · exact Or.inr ⟨_, _, _, rfl, e⟩
  · cases e
theorem iv_rR {r : qR} {kx : Nat → Nat → qH → qR} {k : Value → qH → qR} {o : qO × qH} (e : q_rR r kx k = some o) : (∃ a h, r = some (.inl (some (.ref a)), h) ∧ k (.ref a) h = some o) ∨ ∃ E q h, r = some (.inr (E, q), h) ∧ kx E q h = some o := by
  unfold q_rR at e
  split at e
  · exact Or.inl ⟨_, _, rfl, e⟩
  · exact Or.inr ⟨_, _, _, rfl, e⟩
  · cases e
/-- a call's answer, seen alike for all kinds -/
theorem iv_back {M : qM} {t pc : Nat} {L r : List Value} {k : qK} {a : qR} {o : qO × qH} (e : q_back M t pc L r k a = some o) : (∃ v h, a = some (.inl v, h) ∧ k (pc + 3) L (v.toList ++ r) h = some o) ∨
    ∃ E q h, a = some (.inr (E, q), h) ∧ q_thr M pc E q L h (fun at1 L1 => k at1 L1 [] h) = some o := by
  unfold q_back at e
  split at e
  · rcases iv_rV e with ⟨h, h1, h2⟩ | ⟨E, q, h, h1, h2⟩
    · exact Or.inl ⟨_, h, h1, h2⟩
    · exact Or.inr ⟨E, q, h, h1, h2⟩
  · rcases iv_rI e with ⟨x, h, h1, h2⟩ | ⟨E, q, h, h1, h2⟩
    · exact Or.inl ⟨_, h, h1, h2⟩
    · exact Or.inr ⟨E, q, h, h1, h2⟩
  · rcases iv_rR e with ⟨x, h, h1, h2⟩ | ⟨E, q, h, h1, h2⟩
    · exact Or.inl ⟨_, h, h1, h2⟩
    · exact Or.inr ⟨E, q, h, h1, h2⟩
theorem iv_thr {M : qM} {pc E q : Nat} {L : List Value} {h : qH} {k : Nat → List Value → qR} {o : qO × qH} (e : q_thr M pc E q L h k = some o) : E < 2 ∧ ((M.2.2.1 = [] ∧ o = (.inr (E, q), h)) ∨
    ∃ t n len i, M.2.2.1 ≠ [] ∧ q_fnd M.2.2.1 pc E = some t ∧ M.1.lookup t = some (i, len) ∧ ((∃ f : Fin 4, i = .astore_n f ∧ f.val = n ∧ k (t + 1) (L.set n q_junk) = some o) ∨ (i = .astore n ∧ k (t + 2) (L.set n q_junk) = some o)) ∧ n < L.length) := by
  unfold q_thr at e
  split at e
  · cases e
  rename_i hE2
  refine ⟨by omega, ?_⟩
  split at e
  · rename_i hh
    cases e
    exact Or.inl ⟨hh, rfl⟩
  · rename_i hh hne
    refine Or.inr ?_
    split at e
    · rename_i t ht
      split at e
      · rename_i n len hl
        split at e
        · rename_i hn
          exact ⟨t, n.val, len, _, hne, ht, hl, Or.inl ⟨n, rfl, rfl, e⟩, hn⟩
        · cases e
      · rename_i n len hl
        split at e
        · rename_i hn
          exact ⟨t, n, len, _, hne, ht, hl, Or.inr ⟨rfl, e⟩, hn⟩
        · cases e
      · cases e
    · cases e
