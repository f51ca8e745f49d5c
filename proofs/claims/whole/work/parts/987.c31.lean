/-! the builder, step by step; expanded by wip/whole/px.py out of wip/whole/c31.src -/
/-- a text: how many letters, which -/
abbrev tx : Type := Nat × (Nat → Nat)
def wC (s : tx) (x : Nat) : tx := (s.1 + 1, updN s.2 s.1 x)
def wI (s : tx) (n : Nat) : tx := (s.1 + dgn n, wrN s.2 s.1 n)
def wT (s : tx) : tx := wC (wC s 32) 116
/-- from one state to a later one by calls to the builder alone -/
def ST (n0 : Nat) (G : sH) (m : mm) (N z k : Nat) (G1 : sH) (m1 : mm) (N1 z1 k1 : Nat) (s : tx) : Prop := SB n0 G1 m1 N1 k1 s.1 s.2 ∧ (∀ q, q < n0 → G1 q = G q) ∧ eqO m m1 ∧ k ≤ k1 ∧ N1 + k = N + k1 ∧ z1 + zcap k = z + zcap k1
section C31
variable {n0 N z d : Nat} {S0 : Nat → Value} {G : sH} {m : mm}
variable {k : Nat} {G1 : sH} {m1 : mm} {N1 z1 k1 : Nat} {s : tx}
theorem st_ap {r : Option sO} {o : Option Value} {s2 : tx} (h : ST n0 G m N z k G1 m1 N1 z1 k1 s) (ha : AP n0 G1 m1 N1 z1 k1 r o s2.1 s2.2) : ∃ G2 m2 N2 z2 k2, r = some (.inl o, (hp n0 G2 m2, N2, z2)) ∧ ST n0 G m N z k G2 m2 N2 z2 k2 s2 := by
  obtain ⟨h1, h2, h3, h4, h5, h6⟩ := h
  obtain ⟨G2, m2, N2, z2, k2, e1, e2, e3, e4, e5, e6, e7⟩ := ha
  exact ⟨G2, m2, N2, z2, k2, e1, e2, fun q hq => (e3 q hq).trans (h2 q hq), h3.trans e4, by omega, by omega, by omega⟩
theorem st_start {c : Nat} {f f2 : Nat → Nat} (hb : SB n0 G m N k c f) : ∃ m1, Mt (n0, S0) (d + 3) 304 [.ref (n0 + 290), .int (ic 0)] (hp n0 G m, N, z) = some (.inl none, (hp n0 G m1, N, z)) ∧ ST n0 G m N z k G m1 N z k (0, f2) := by
  obtain ⟨m1, h1, h2, h3⟩ := j_setLength (n0 := n0) (S0 := S0) (z := z) (d := d) (f2 := f2) hb
  exact ⟨m1, h1, h2, fun _ _ => rfl, h3, Nat.le_refl _, rfl, rfl⟩
theorem st_char (h : ST n0 G m N z k G1 m1 N1 z1 k1 s) (h0 : S0 0 = .int (ic 1)) {x : Nat} (hx : x < 128) (hl : s.1 + 1 ≤ 142) : ∃ G2 m2 N2 z2 k2, Mt (n0, S0) (d + 5) 308 [.ref (n0 + 290), .int (ic x)] (hp n0 G1 m1, N1, z1) = some (.inl (some (.ref (n0 + 290))), (hp n0 G2 m2, N2, z2)) ∧ ST n0 G m N z k G2 m2 N2 z2 k2 (wC s x) :=
  st_ap (s2 := wC s x) h (j_appendChar h.1 hx hl h0)
theorem st_int (h : ST n0 G m N z k G1 m1 N1 z1 k1 s) (h0 : S0 0 = .int (ic 1)) (hD : isDig n0 S0 G) {n : Nat} (hn : n < 100000) (hl : s.1 + dgn n ≤ 142) : ∃ G2 m2 N2 z2 k2, Mt (n0, S0) (d + 5) 306 [.ref (n0 + 290), .int (ic n)] (hp n0 G1 m1, N1, z1) = some (.inl (some (.ref (n0 + 290))), (hp n0 G2 m2, N2, z2)) ∧ ST n0 G m N z k G2 m2 N2 z2 k2 (wI s n) :=
  st_ap (s2 := wI s n) h (j_appendInt h.1 hn hl h0 (hD.mono h.2.1))
theorem st_t (h : ST n0 G m N z k G1 m1 N1 z1 k1 s) (h0 : S0 0 = .int (ic 1)) (hT : isT n0 S0 G) (hl : s.1 + 2 ≤ 142) : ∃ G2 m2 N2 z2 k2 v, S0 7 = .ref v ∧ Mt (n0, S0) (d + 7) 305 [.ref (n0 + 290), .ref v] (hp n0 G1 m1, N1, z1) = some (.inl (some (.ref (n0 + 290))), (hp n0 G2 m2, N2, z2)) ∧ ST n0 G m N z k G2 m2 N2 z2 k2 (wT s) := by
  obtain ⟨v, hv, ha⟩ := j_appendT (n0 := n0) (S0 := S0) (z := z1) (d := d) h.1 hl h0 (hT.mono h.2.1)
  obtain ⟨G2, m2, N2, z2, k2, e1, e2⟩ := st_ap (s2 := wT s) h ha
  exact ⟨G2, m2, N2, z2, k2, v, hv, e1, e2⟩
theorem st_len (h : ST n0 G m N z k G1 m1 N1 z1 k1 s) : Mt (n0, S0) (d + 2) 307 [.ref (n0 + 290)] (hp n0 G1 m1, N1, z1) = oI n0 G1 m1 N1 z1 (ic s.1) := j_sbLength h.1
theorem st_ri (h : ST n0 G m N z k G1 m1 N1 z1 k1 s) (q : Nat) (hq : q ≠ 290) : ri m1 q = ri m q := (h.2.2.1.1 q hq).1
theorem c_charAt {c : Nat} {f : Nat → Nat} (hb : SB n0 G m N k c f) (h6 : S0 6 = .null ∨ ∃ q, S0 6 = .ref q) {i : Int32} : Mt (n0, S0) (d + 5) 118 [.ref n0, .int i] (hp n0 G m, N, z) = if ¬ i < ic 0 ∧ i < ic c then oI n0 G m N z (ic (f i.toNatClampNeg)) else some (.inr "java/lang/IndexOutOfBoundsException", (hp n0 G m, N + 1, z + 6)) := by
  have k290 : kd 290 = 17 := rfl
  have hl := fun d N z (hb : SB n0 G m N k c f) => j_sbLength (n0 := n0) (S0 := S0) (N := N) (z := z) (d := d) hb
  have hl2 := fun d => hl d N z hb
  have hc : c < 1000 := by obtain ⟨g, b⟩ := hb; have := cap_b b.2.2.2.2.2.2.2.2.1; have := b.2.2.2.2.2.2.2.1; omega
  rw [NMain_charAt]
  by_cases hi : ¬ i < ic 0 ∧ i < ic c
  · obtain ⟨v, hv, rfl⟩ := rng_of (by omega) hi
    have hnar : narrow .char (.int (ic (f v))) = .int (ic (f v)) := by
      obtain ⟨g, b⟩ := hb
      exact (pk_charN (q := f v) (by rw [← b.2.2.2.2.1 v hv]; have := b.2.2.2.1 v; omega)).1
    have hca := j_sbCharAt (n0 := n0) (S0 := S0) (z := z) (d := d) hb hv h6
    rw [if_pos hi, ic_nat (by omega)]
    simp (disch := first | assumption | (show (_ : Nat) < _; omega) | (show (_ : Nat) ≠ _; omega) | (show (_ : Nat) ≤ _; omega) | exact Or.inl rfl | exact Or.inr rfl) only [hG0, hG1, hG2, hF0, hF1, hA0, hA1, xL, xC, icL, Option.bind_some, Nat.le_add_right, Nat.le_refl, if_true, if_false, and_self, true_and, and_true, or_false, false_or, or_true, true_or, and_false, false_and, not_true_eq_false, not_false_eq_true, Nat.reduceAdd, Nat.reduceLeDiff, Nat.reduceLT, Option.toList_some, Option.toList_none, List.cons_append, List.nil_append, callK_ret, callR_ret, callK_thr, decide_true, Bool.true_and, xNr, bI0, bIT, bIF, ne_eq, Classical.not_not, not_false_eq_true, false_or, List.length_nil, icM, ic_lt, ic_eq, le_nl, ↓reduceIte, Nat.lt_irrefl, ri_ws, ri_wn, ri_as, ri_an, upd_s, upd_n, rp_wi, rp_wa, rl_wi, rl_wa, rl_wp, rl_wpa, rl_wl, rp_wl, ri_wl, rp_wd, ri_wd, in_rng, Int32.lt_irrefl, Nat.not_lt_zero, pk_nc, Nat.reduceEqDiff, Nat.succ_ne_self, Nat.one_ne_zero, Nat.add_left_cancel_iff, ri_wpa, ri_wp, QMain_charAt_0, hl2, hv, hca, hnar]
  · rw [if_neg hi]
    by_cases h1 : i < ic 0
    · simp (disch := first | assumption | (show (_ : Nat) < _; omega) | (show (_ : Nat) ≠ _; omega) | (show (_ : Nat) ≤ _; omega) | exact Or.inl rfl | exact Or.inr rfl) only [hG0, hG1, hG2, hF0, hF1, hA0, hA1, xL, xC, icL, Option.bind_some, Nat.le_add_right, Nat.le_refl, if_true, if_false, and_self, true_and, and_true, or_false, false_or, or_true, true_or, and_false, false_and, not_true_eq_false, not_false_eq_true, Nat.reduceAdd, Nat.reduceLeDiff, Nat.reduceLT, Option.toList_some, Option.toList_none, List.cons_append, List.nil_append, callK_ret, callR_ret, callK_thr, decide_true, Bool.true_and, xNr, bI0, bIT, bIF, ne_eq, Classical.not_not, not_false_eq_true, false_or, List.length_nil, icM, ic_lt, ic_eq, le_nl, ↓reduceIte, Nat.lt_irrefl, ri_ws, ri_wn, ri_as, ri_an, upd_s, upd_n, rp_wi, rp_wa, rl_wi, rl_wa, rl_wp, rl_wpa, rl_wl, rp_wl, ri_wl, rp_wd, ri_wd, in_rng, Int32.lt_irrefl, Nat.not_lt_zero, pk_nc, Nat.reduceEqDiff, Nat.succ_ne_self, Nat.one_ne_zero, Nat.add_left_cancel_iff, ri_wpa, ri_wp, QMain_charAt_0, hl2, h1]
    · have h2 : ¬ i < ic c := fun z => hi ⟨h1, z⟩
      simp (disch := first | assumption | (show (_ : Nat) < _; omega) | (show (_ : Nat) ≠ _; omega) | (show (_ : Nat) ≤ _; omega) | exact Or.inl rfl | exact Or.inr rfl) only [hG0, hG1, hG2, hF0, hF1, hA0, hA1, xL, xC, icL, Option.bind_some, Nat.le_add_right, Nat.le_refl, if_true, if_false, and_self, true_and, and_true, or_false, false_or, or_true, true_or, and_false, false_and, not_true_eq_false, not_false_eq_true, Nat.reduceAdd, Nat.reduceLeDiff, Nat.reduceLT, Option.toList_some, Option.toList_none, List.cons_append, List.nil_append, callK_ret, callR_ret, callK_thr, decide_true, Bool.true_and, xNr, bI0, bIT, bIF, ne_eq, Classical.not_not, not_false_eq_true, false_or, List.length_nil, icM, ic_lt, ic_eq, le_nl, ↓reduceIte, Nat.lt_irrefl, ri_ws, ri_wn, ri_as, ri_an, upd_s, upd_n, rp_wi, rp_wa, rl_wi, rl_wa, rl_wp, rl_wpa, rl_wl, rp_wl, ri_wl, rp_wd, ri_wd, in_rng, Int32.lt_irrefl, Nat.not_lt_zero, pk_nc, Nat.reduceEqDiff, Nat.succ_ne_self, Nat.one_ne_zero, Nat.add_left_cancel_iff, ri_wpa, ri_wp, QMain_charAt_0, hl2, h1, h2]
end C31
