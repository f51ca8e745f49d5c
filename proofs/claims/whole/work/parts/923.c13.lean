theorem icX : ((35 : Int32) = ic 35) ∧ ((37 : Int32) = ic 37) ∧ ((63 : Int32) = ic 63) ∧ ((32 : Int32) = ic 32) := ⟨rfl, rfl, rfl, rfl⟩
/-! the class's Program: numbers, arguments, shapes; expanded by wip/whole/px.py out of wip/whole/c13.src -/
section C13
variable {n0 N z d : Nat} {S0 : Nat → Value} {G : sH} {m : mm}
theorem wa_comm (m : mm) {k q : Nat} (f g : Nat → Int32) (h : k ≠ q) : wa (wa m k f) q g = wa (wa m q g) k f := by
  unfold wa
  refine congrArg (fun x => (x, m.2)) ?_
  funext x
  dsimp only
  by_cases h1 : x = q
  · subst h1
    rw [if_pos rfl, if_neg (fun e => h e.symm), if_pos rfl]
  · rw [if_neg h1]
    by_cases h2 : x = k
    · rw [if_pos h2, if_pos h2]
    · rw [if_neg h2, if_neg h2, if_neg h1]
theorem atM_at (p q : Nat) : atM (atM m p) q = atM m q := by
  unfold atM
  rw [show wi m 269 2 (ic p) = wa m 269 (upd (ri m 269) 2 (ic p)) from rfl, wi_wa]
  refine congrArg (wa m 269) ?_
  funext x
  unfold upd
  split <;> rfl
theorem atM_l {p : Nat} : ri (atM m p) 269 1 = ri m 269 1 := by
  unfold atM
  rw [ri_ws, upd_n _ _ (by decide)]
theorem atM_p {p : Nat} : ri (atM m p) 269 2 = ic p := by
  unfold atM
  rw [ri_ws, upd_s]
theorem atM_t {p k : Nat} (h : k ≠ 269) : ri (atM m p) k = ri m k := by
  unfold atM
  rw [ri_wn _ _ _ h]
theorem c_rdD {l p : Nat} (hl : ri m 269 1 = ic l) (h60 : l ≤ 60) (hpl : p ≤ l) : Mt (n0, S0) (d + 1) 37 [.ref (n0 + 269)] (hp n0 G (atM m p), N, z) = oI n0 G (atM m (rdDp (ri m 270) l p)) N z (rdD (ri m 270) l p) := by
  have h := c_readDigit (n0 := n0) (S0 := S0) (G := G) (d := d) (N := N) (z := z) (m := atM m p) (atM_l.trans hl) h60 atM_p hpl
  rw [atM_at, atM_t (by decide)] at h
  exact h
theorem c_rdK {l p : Nat} (hl : ri m 269 1 = ic l) (h60 : l ≤ 60) (hpl : p ≤ l) : Mt (n0, S0) (d + 2) 38 [.ref (n0 + 269)] (hp n0 G (atM m p), N, z) = oI n0 G (atM m (rdKp (ri m 270) l p)) N z (rdK (ri m 270) l p) := by
  have h := c_readKind (n0 := n0) (S0 := S0) (G := G) (d := d) (N := N) (z := z) (m := atM m p) (atM_l.trans hl) h60 atM_p hpl
  rw [atM_at, atM_t (by decide)] at h
  exact h
theorem c_rdS {l p : Nat} (hl : ri m 269 1 = ic l) (h60 : l ≤ 60) (hpl : p ≤ l) {c : Int32} : Mt (n0, S0) (d + 1) 39 [.ref (n0 + 269), .int c] (hp n0 G (atM m p), N, z) = if p < l ∧ ri m 270 p = c then oI n0 G (atM m (p + 1)) N z (ic 1) else oI n0 G (atM m p) N z (ic 0) := by
  have h := c_readSign (n0 := n0) (S0 := S0) (G := G) (d := d) (N := N) (z := z) (m := atM m p) (atM_l.trans hl) h60 atM_p hpl (c := c)
  rw [atM_at, atM_t (by decide)] at h
  exact h
theorem rdD_1 {t : Nat → Int32} {l p : Nat} (h : isD t l p) : rdD t l p = t p - ic 48 ∧ rdDp t l p = p + 1 := ⟨if_pos h, if_pos h⟩
theorem rdD_0 {t : Nat → Int32} {l p : Nat} (h : ¬ isD t l p) : rdD t l p = -ic 1 ∧ rdDp t l p = p := ⟨if_neg h, if_neg h⟩
def rdNv (t : Nat → Int32) (l p : Nat) : Int32 := if isD t l p then (if isD t l (p + 1) then (if isD t l (p + 2) then ic 10 * (ic 10 * (t p - ic 48) + (t (p + 1) - ic 48)) + (t (p + 2) - ic 48) else ic 10 * (t p - ic 48) + (t (p + 1) - ic 48)) else t p - ic 48) else -ic 1
def rdNp (t : Nat → Int32) (l p : Nat) : Nat := if isD t l p then (if isD t l (p + 1) then (if isD t l (p + 2) then p + 3 else p + 2) else p + 1) else p
theorem c_readNumber {l p : Nat} (hl : ri m 269 1 = ic l) (h60 : l ≤ 60) (hpl : p ≤ l) : Mt (n0, S0) (d + 2) 36 [.ref (n0 + 269)] (hp n0 G (atM m p), N, z) = oI n0 G (atM m (rdNp (ri m 270) l p)) N z (rdNv (ri m 270) l p) := by
  have k269 : kd 269 = 13 := rfl
  have hd := fun (p : Nat) (hpl : p ≤ l) (d N z : Nat) => c_rdD (n0 := n0) (S0 := S0) (G := G) (m := m) (d := d) (N := N) (z := z) hl h60 hpl
  have hd0 := hd p hpl
  rw [NProgram_readNumber]
  by_cases h0 : isD (ri m 270) l p
  · have n0' := dg_ne h0
    have hd1 := hd (p + 1) h0.1
    by_cases h1 : isD (ri m 270) l (p + 1)
    · have n1' := dg_ne h1
      have hd2 := hd (p + 1 + 1) h1.1
      by_cases h2 : isD (ri m 270) l (p + 2)
      · have n2' := dg_ne h2
        rw [rdNp, rdNv, if_pos h0, if_pos h1, if_pos h2, if_pos h0, if_pos h1, if_pos h2]
        clear hd
        simp (disch := first | assumption | (show (_ : Nat) < _; omega) | (show (_ : Nat) ≠ _; omega) | (show (_ : Nat) ≤ _; omega) | exact Or.inl rfl | exact Or.inr rfl) only [hG0, hG1, hG2, hF0, hF1, hA0, hA1, xL, xC, icL, Option.bind_some, Nat.le_add_right, Nat.le_refl, if_true, if_false, and_self, true_and, and_true, or_false, false_or, or_true, true_or, and_false, false_and, not_true_eq_false, not_false_eq_true, Nat.reduceAdd, Nat.reduceLeDiff, Nat.reduceLT, Option.toList_some, Option.toList_none, List.cons_append, List.nil_append, callK_ret, callR_ret, callK_thr, decide_true, Bool.true_and, xNr, bI0, bIT, bIF, ne_eq, Classical.not_not, not_false_eq_true, false_or, List.length_nil, icM, ic_lt, ic_eq, le_nl, ↓reduceIte, Nat.lt_irrefl, ri_ws, ri_wn, ri_as, ri_an, upd_s, upd_n, rp_wi, rp_wa, rl_wi, rl_wa, rl_wp, rl_wpa, rl_wl, rp_wl, ri_wl, rp_wd, ri_wd, in_rng, Int32.lt_irrefl, Nat.not_lt_zero, pk_nc, Nat.reduceEqDiff, Nat.succ_ne_self, Nat.one_ne_zero, Nat.add_left_cancel_iff, ri_wpa, ri_wp, QProgram_readNumber_0, hd0, (rdD_1 h0).1, (rdD_1 h0).2]
        rw [HProgram_readNumber_9]
        simp (disch := first | assumption | (show (_ : Nat) < _; omega) | (show (_ : Nat) ≠ _; omega) | (show (_ : Nat) ≤ _; omega) | exact Or.inl rfl | exact Or.inr rfl) only [hG0, hG1, hG2, hF0, hF1, hA0, hA1, xL, xC, icL, Option.bind_some, Nat.le_add_right, Nat.le_refl, if_true, if_false, and_self, true_and, and_true, or_false, false_or, or_true, true_or, and_false, false_and, not_true_eq_false, not_false_eq_true, Nat.reduceAdd, Nat.reduceLeDiff, Nat.reduceLT, Option.toList_some, Option.toList_none, List.cons_append, List.nil_append, callK_ret, callR_ret, callK_thr, decide_true, Bool.true_and, xNr, bI0, bIT, bIF, ne_eq, Classical.not_not, not_false_eq_true, false_or, List.length_nil, icM, ic_lt, ic_eq, le_nl, ↓reduceIte, Nat.lt_irrefl, ri_ws, ri_wn, ri_as, ri_an, upd_s, upd_n, rp_wi, rp_wa, rl_wi, rl_wa, rl_wp, rl_wpa, rl_wl, rp_wl, ri_wl, rp_wd, ri_wd, in_rng, Int32.lt_irrefl, Nat.not_lt_zero, pk_nc, Nat.reduceEqDiff, Nat.succ_ne_self, Nat.one_ne_zero, Nat.add_left_cancel_iff, ri_wpa, ri_wp, QProgram_readNumber_0, n0', hd1, (rdD_1 h1).1, (rdD_1 h1).2, n1', ic_add]
        rw [HProgram_readNumber_9]
        simp (disch := first | assumption | (show (_ : Nat) < _; omega) | (show (_ : Nat) ≠ _; omega) | (show (_ : Nat) ≤ _; omega) | exact Or.inl rfl | exact Or.inr rfl) only [hG0, hG1, hG2, hF0, hF1, hA0, hA1, xL, xC, icL, Option.bind_some, Nat.le_add_right, Nat.le_refl, if_true, if_false, and_self, true_and, and_true, or_false, false_or, or_true, true_or, and_false, false_and, not_true_eq_false, not_false_eq_true, Nat.reduceAdd, Nat.reduceLeDiff, Nat.reduceLT, Option.toList_some, Option.toList_none, List.cons_append, List.nil_append, callK_ret, callR_ret, callK_thr, decide_true, Bool.true_and, xNr, bI0, bIT, bIF, ne_eq, Classical.not_not, not_false_eq_true, false_or, List.length_nil, icM, ic_lt, ic_eq, le_nl, ↓reduceIte, Nat.lt_irrefl, ri_ws, ri_wn, ri_as, ri_an, upd_s, upd_n, rp_wi, rp_wa, rl_wi, rl_wa, rl_wp, rl_wpa, rl_wl, rp_wl, ri_wl, rp_wd, ri_wd, in_rng, Int32.lt_irrefl, Nat.not_lt_zero, pk_nc, Nat.reduceEqDiff, Nat.succ_ne_self, Nat.one_ne_zero, Nat.add_left_cancel_iff, ri_wpa, ri_wp, QProgram_readNumber_0, n1', hd2, (rdD_1 h2).1, (rdD_1 h2).2, n2', ic_add]
        rw [HProgram_readNumber_9]
        simp (disch := first | assumption | (show (_ : Nat) < _; omega) | (show (_ : Nat) ≠ _; omega) | (show (_ : Nat) ≤ _; omega) | exact Or.inl rfl | exact Or.inr rfl) only [hG0, hG1, hG2, hF0, hF1, hA0, hA1, xL, xC, icL, Option.bind_some, Nat.le_add_right, Nat.le_refl, if_true, if_false, and_self, true_and, and_true, or_false, false_or, or_true, true_or, and_false, false_and, not_true_eq_false, not_false_eq_true, Nat.reduceAdd, Nat.reduceLeDiff, Nat.reduceLT, Option.toList_some, Option.toList_none, List.cons_append, List.nil_append, callK_ret, callR_ret, callK_thr, decide_true, Bool.true_and, xNr, bI0, bIT, bIF, ne_eq, Classical.not_not, not_false_eq_true, false_or, List.length_nil, icM, ic_lt, ic_eq, le_nl, ↓reduceIte, Nat.lt_irrefl, ri_ws, ri_wn, ri_as, ri_an, upd_s, upd_n, rp_wi, rp_wa, rl_wi, rl_wa, rl_wp, rl_wpa, rl_wl, rp_wl, ri_wl, rp_wd, ri_wd, in_rng, Int32.lt_irrefl, Nat.not_lt_zero, pk_nc, Nat.reduceEqDiff, Nat.succ_ne_self, Nat.one_ne_zero, Nat.add_left_cancel_iff, ri_wpa, ri_wp, QProgram_readNumber_0]
      · rw [rdNp, rdNv, if_pos h0, if_pos h1, if_neg h2, if_pos h0, if_pos h1, if_neg h2]
        clear hd
        simp (disch := first | assumption | (show (_ : Nat) < _; omega) | (show (_ : Nat) ≠ _; omega) | (show (_ : Nat) ≤ _; omega) | exact Or.inl rfl | exact Or.inr rfl) only [hG0, hG1, hG2, hF0, hF1, hA0, hA1, xL, xC, icL, Option.bind_some, Nat.le_add_right, Nat.le_refl, if_true, if_false, and_self, true_and, and_true, or_false, false_or, or_true, true_or, and_false, false_and, not_true_eq_false, not_false_eq_true, Nat.reduceAdd, Nat.reduceLeDiff, Nat.reduceLT, Option.toList_some, Option.toList_none, List.cons_append, List.nil_append, callK_ret, callR_ret, callK_thr, decide_true, Bool.true_and, xNr, bI0, bIT, bIF, ne_eq, Classical.not_not, not_false_eq_true, false_or, List.length_nil, icM, ic_lt, ic_eq, le_nl, ↓reduceIte, Nat.lt_irrefl, ri_ws, ri_wn, ri_as, ri_an, upd_s, upd_n, rp_wi, rp_wa, rl_wi, rl_wa, rl_wp, rl_wpa, rl_wl, rp_wl, ri_wl, rp_wd, ri_wd, in_rng, Int32.lt_irrefl, Nat.not_lt_zero, pk_nc, Nat.reduceEqDiff, Nat.succ_ne_self, Nat.one_ne_zero, Nat.add_left_cancel_iff, ri_wpa, ri_wp, QProgram_readNumber_0, hd0, (rdD_1 h0).1, (rdD_1 h0).2]
        rw [HProgram_readNumber_9]
        simp (disch := first | assumption | (show (_ : Nat) < _; omega) | (show (_ : Nat) ≠ _; omega) | (show (_ : Nat) ≤ _; omega) | exact Or.inl rfl | exact Or.inr rfl) only [hG0, hG1, hG2, hF0, hF1, hA0, hA1, xL, xC, icL, Option.bind_some, Nat.le_add_right, Nat.le_refl, if_true, if_false, and_self, true_and, and_true, or_false, false_or, or_true, true_or, and_false, false_and, not_true_eq_false, not_false_eq_true, Nat.reduceAdd, Nat.reduceLeDiff, Nat.reduceLT, Option.toList_some, Option.toList_none, List.cons_append, List.nil_append, callK_ret, callR_ret, callK_thr, decide_true, Bool.true_and, xNr, bI0, bIT, bIF, ne_eq, Classical.not_not, not_false_eq_true, false_or, List.length_nil, icM, ic_lt, ic_eq, le_nl, ↓reduceIte, Nat.lt_irrefl, ri_ws, ri_wn, ri_as, ri_an, upd_s, upd_n, rp_wi, rp_wa, rl_wi, rl_wa, rl_wp, rl_wpa, rl_wl, rp_wl, ri_wl, rp_wd, ri_wd, in_rng, Int32.lt_irrefl, Nat.not_lt_zero, pk_nc, Nat.reduceEqDiff, Nat.succ_ne_self, Nat.one_ne_zero, Nat.add_left_cancel_iff, ri_wpa, ri_wp, QProgram_readNumber_0, n0', hd1, (rdD_1 h1).1, (rdD_1 h1).2, n1', ic_add]
        rw [HProgram_readNumber_9]
        simp (disch := first | assumption | (show (_ : Nat) < _; omega) | (show (_ : Nat) ≠ _; omega) | (show (_ : Nat) ≤ _; omega) | exact Or.inl rfl | exact Or.inr rfl) only [hG0, hG1, hG2, hF0, hF1, hA0, hA1, xL, xC, icL, Option.bind_some, Nat.le_add_right, Nat.le_refl, if_true, if_false, and_self, true_and, and_true, or_false, false_or, or_true, true_or, and_false, false_and, not_true_eq_false, not_false_eq_true, Nat.reduceAdd, Nat.reduceLeDiff, Nat.reduceLT, Option.toList_some, Option.toList_none, List.cons_append, List.nil_append, callK_ret, callR_ret, callK_thr, decide_true, Bool.true_and, xNr, bI0, bIT, bIF, ne_eq, Classical.not_not, not_false_eq_true, false_or, List.length_nil, icM, ic_lt, ic_eq, le_nl, ↓reduceIte, Nat.lt_irrefl, ri_ws, ri_wn, ri_as, ri_an, upd_s, upd_n, rp_wi, rp_wa, rl_wi, rl_wa, rl_wp, rl_wpa, rl_wl, rp_wl, ri_wl, rp_wd, ri_wd, in_rng, Int32.lt_irrefl, Nat.not_lt_zero, pk_nc, Nat.reduceEqDiff, Nat.succ_ne_self, Nat.one_ne_zero, Nat.add_left_cancel_iff, ri_wpa, ri_wp, QProgram_readNumber_0, n1', hd2, (rdD_0 h2).1, (rdD_0 h2).2, ic_add]
        rw [HProgram_readNumber_9]
        simp (disch := first | assumption | (show (_ : Nat) < _; omega) | (show (_ : Nat) ≠ _; omega) | (show (_ : Nat) ≤ _; omega) | exact Or.inl rfl | exact Or.inr rfl) only [hG0, hG1, hG2, hF0, hF1, hA0, hA1, xL, xC, icL, Option.bind_some, Nat.le_add_right, Nat.le_refl, if_true, if_false, and_self, true_and, and_true, or_false, false_or, or_true, true_or, and_false, false_and, not_true_eq_false, not_false_eq_true, Nat.reduceAdd, Nat.reduceLeDiff, Nat.reduceLT, Option.toList_some, Option.toList_none, List.cons_append, List.nil_append, callK_ret, callR_ret, callK_thr, decide_true, Bool.true_and, xNr, bI0, bIT, bIF, ne_eq, Classical.not_not, not_false_eq_true, false_or, List.length_nil, icM, ic_lt, ic_eq, le_nl, ↓reduceIte, Nat.lt_irrefl, ri_ws, ri_wn, ri_as, ri_an, upd_s, upd_n, rp_wi, rp_wa, rl_wi, rl_wa, rl_wp, rl_wpa, rl_wl, rp_wl, ri_wl, rp_wd, ri_wd, in_rng, Int32.lt_irrefl, Nat.not_lt_zero, pk_nc, Nat.reduceEqDiff, Nat.succ_ne_self, Nat.one_ne_zero, Nat.add_left_cancel_iff, ri_wpa, ri_wp, QProgram_readNumber_0]
    · rw [rdNp, rdNv, if_pos h0, if_neg h1, if_pos h0, if_neg h1]
      clear hd
      simp (disch := first | assumption | (show (_ : Nat) < _; omega) | (show (_ : Nat) ≠ _; omega) | (show (_ : Nat) ≤ _; omega) | exact Or.inl rfl | exact Or.inr rfl) only [hG0, hG1, hG2, hF0, hF1, hA0, hA1, xL, xC, icL, Option.bind_some, Nat.le_add_right, Nat.le_refl, if_true, if_false, and_self, true_and, and_true, or_false, false_or, or_true, true_or, and_false, false_and, not_true_eq_false, not_false_eq_true, Nat.reduceAdd, Nat.reduceLeDiff, Nat.reduceLT, Option.toList_some, Option.toList_none, List.cons_append, List.nil_append, callK_ret, callR_ret, callK_thr, decide_true, Bool.true_and, xNr, bI0, bIT, bIF, ne_eq, Classical.not_not, not_false_eq_true, false_or, List.length_nil, icM, ic_lt, ic_eq, le_nl, ↓reduceIte, Nat.lt_irrefl, ri_ws, ri_wn, ri_as, ri_an, upd_s, upd_n, rp_wi, rp_wa, rl_wi, rl_wa, rl_wp, rl_wpa, rl_wl, rp_wl, ri_wl, rp_wd, ri_wd, in_rng, Int32.lt_irrefl, Nat.not_lt_zero, pk_nc, Nat.reduceEqDiff, Nat.succ_ne_self, Nat.one_ne_zero, Nat.add_left_cancel_iff, ri_wpa, ri_wp, QProgram_readNumber_0, hd0, (rdD_1 h0).1, (rdD_1 h0).2]
      rw [HProgram_readNumber_9]
      simp (disch := first | assumption | (show (_ : Nat) < _; omega) | (show (_ : Nat) ≠ _; omega) | (show (_ : Nat) ≤ _; omega) | exact Or.inl rfl | exact Or.inr rfl) only [hG0, hG1, hG2, hF0, hF1, hA0, hA1, xL, xC, icL, Option.bind_some, Nat.le_add_right, Nat.le_refl, if_true, if_false, and_self, true_and, and_true, or_false, false_or, or_true, true_or, and_false, false_and, not_true_eq_false, not_false_eq_true, Nat.reduceAdd, Nat.reduceLeDiff, Nat.reduceLT, Option.toList_some, Option.toList_none, List.cons_append, List.nil_append, callK_ret, callR_ret, callK_thr, decide_true, Bool.true_and, xNr, bI0, bIT, bIF, ne_eq, Classical.not_not, not_false_eq_true, false_or, List.length_nil, icM, ic_lt, ic_eq, le_nl, ↓reduceIte, Nat.lt_irrefl, ri_ws, ri_wn, ri_as, ri_an, upd_s, upd_n, rp_wi, rp_wa, rl_wi, rl_wa, rl_wp, rl_wpa, rl_wl, rp_wl, ri_wl, rp_wd, ri_wd, in_rng, Int32.lt_irrefl, Nat.not_lt_zero, pk_nc, Nat.reduceEqDiff, Nat.succ_ne_self, Nat.one_ne_zero, Nat.add_left_cancel_iff, ri_wpa, ri_wp, QProgram_readNumber_0, n0', hd1, (rdD_0 h1).1, (rdD_0 h1).2, ic_add]
      rw [HProgram_readNumber_9]
      simp (disch := first | assumption | (show (_ : Nat) < _; omega) | (show (_ : Nat) ≠ _; omega) | (show (_ : Nat) ≤ _; omega) | exact Or.inl rfl | exact Or.inr rfl) only [hG0, hG1, hG2, hF0, hF1, hA0, hA1, xL, xC, icL, Option.bind_some, Nat.le_add_right, Nat.le_refl, if_true, if_false, and_self, true_and, and_true, or_false, false_or, or_true, true_or, and_false, false_and, not_true_eq_false, not_false_eq_true, Nat.reduceAdd, Nat.reduceLeDiff, Nat.reduceLT, Option.toList_some, Option.toList_none, List.cons_append, List.nil_append, callK_ret, callR_ret, callK_thr, decide_true, Bool.true_and, xNr, bI0, bIT, bIF, ne_eq, Classical.not_not, not_false_eq_true, false_or, List.length_nil, icM, ic_lt, ic_eq, le_nl, ↓reduceIte, Nat.lt_irrefl, ri_ws, ri_wn, ri_as, ri_an, upd_s, upd_n, rp_wi, rp_wa, rl_wi, rl_wa, rl_wp, rl_wpa, rl_wl, rp_wl, ri_wl, rp_wd, ri_wd, in_rng, Int32.lt_irrefl, Nat.not_lt_zero, pk_nc, Nat.reduceEqDiff, Nat.succ_ne_self, Nat.one_ne_zero, Nat.add_left_cancel_iff, ri_wpa, ri_wp, QProgram_readNumber_0]
  · rw [rdNp, rdNv, if_neg h0, if_neg h0]
    clear hd
    simp (disch := first | assumption | (show (_ : Nat) < _; omega) | (show (_ : Nat) ≠ _; omega) | (show (_ : Nat) ≤ _; omega) | exact Or.inl rfl | exact Or.inr rfl) only [hG0, hG1, hG2, hF0, hF1, hA0, hA1, xL, xC, icL, Option.bind_some, Nat.le_add_right, Nat.le_refl, if_true, if_false, and_self, true_and, and_true, or_false, false_or, or_true, true_or, and_false, false_and, not_true_eq_false, not_false_eq_true, Nat.reduceAdd, Nat.reduceLeDiff, Nat.reduceLT, Option.toList_some, Option.toList_none, List.cons_append, List.nil_append, callK_ret, callR_ret, callK_thr, decide_true, Bool.true_and, xNr, bI0, bIT, bIF, ne_eq, Classical.not_not, not_false_eq_true, false_or, List.length_nil, icM, ic_lt, ic_eq, le_nl, ↓reduceIte, Nat.lt_irrefl, ri_ws, ri_wn, ri_as, ri_an, upd_s, upd_n, rp_wi, rp_wa, rl_wi, rl_wa, rl_wp, rl_wpa, rl_wl, rp_wl, ri_wl, rp_wd, ri_wd, in_rng, Int32.lt_irrefl, Nat.not_lt_zero, pk_nc, Nat.reduceEqDiff, Nat.succ_ne_self, Nat.one_ne_zero, Nat.add_left_cancel_iff, ri_wpa, ri_wp, QProgram_readNumber_0, hd0, (rdD_0 h0).1, (rdD_0 h0).2]
    rw [HProgram_readNumber_9]
    simp (disch := first | assumption | (show (_ : Nat) < _; omega) | (show (_ : Nat) ≠ _; omega) | (show (_ : Nat) ≤ _; omega) | exact Or.inl rfl | exact Or.inr rfl) only [hG0, hG1, hG2, hF0, hF1, hA0, hA1, xL, xC, icL, Option.bind_some, Nat.le_add_right, Nat.le_refl, if_true, if_false, and_self, true_and, and_true, or_false, false_or, or_true, true_or, and_false, false_and, not_true_eq_false, not_false_eq_true, Nat.reduceAdd, Nat.reduceLeDiff, Nat.reduceLT, Option.toList_some, Option.toList_none, List.cons_append, List.nil_append, callK_ret, callR_ret, callK_thr, decide_true, Bool.true_and, xNr, bI0, bIT, bIF, ne_eq, Classical.not_not, not_false_eq_true, false_or, List.length_nil, icM, ic_lt, ic_eq, le_nl, ↓reduceIte, Nat.lt_irrefl, ri_ws, ri_wn, ri_as, ri_an, upd_s, upd_n, rp_wi, rp_wa, rl_wi, rl_wa, rl_wp, rl_wpa, rl_wl, rp_wl, ri_wl, rp_wd, ri_wd, in_rng, Int32.lt_irrefl, Nat.not_lt_zero, pk_nc, Nat.reduceEqDiff, Nat.succ_ne_self, Nat.one_ne_zero, Nat.add_left_cancel_iff, ri_wpa, ri_wp, QProgram_readNumber_0]
def rdAv (t : Nat → Int32) (l c p : Nat) : Int32 := if c = 35 then rdNv t l p else if c = 37 then rdD t l p else rdK t l p
def rdAp (t : Nat → Int32) (l c p : Nat) : Nat := if c = 35 then rdNp t l p else if c = 37 then rdDp t l p else rdKp t l p
theorem c_readArgument {l p : Nat} (hl : ri m 269 1 = ic l) (h60 : l ≤ 60) (hpl : p ≤ l) {c : Nat} (hc : c < 128) : Mt (n0, S0) (d + 3) 35 [.ref (n0 + 269), .int (ic c)] (hp n0 G (atM m p), N, z) = oI n0 G (atM m (rdAp (ri m 270) l c p)) N z (rdAv (ri m 270) l c p) := by
  have k269 : kd 269 = 13 := rfl
  rw [NProgram_readArgument, rdAp, rdAv]
  by_cases h1 : c = 35
  · simp (disch := first | assumption | (show (_ : Nat) < _; omega) | (show (_ : Nat) ≠ _; omega) | (show (_ : Nat) ≤ _; omega) | exact Or.inl rfl | exact Or.inr rfl) only [hG0, hG1, hG2, hF0, hF1, hA0, hA1, xL, xC, icL, Option.bind_some, Nat.le_add_right, Nat.le_refl, if_true, if_false, and_self, true_and, and_true, or_false, false_or, or_true, true_or, and_false, false_and, not_true_eq_false, not_false_eq_true, Nat.reduceAdd, Nat.reduceLeDiff, Nat.reduceLT, Option.toList_some, Option.toList_none, List.cons_append, List.nil_append, callK_ret, callR_ret, callK_thr, decide_true, Bool.true_and, xNr, bI0, bIT, bIF, ne_eq, Classical.not_not, not_false_eq_true, false_or, List.length_nil, icM, ic_lt, ic_eq, le_nl, ↓reduceIte, Nat.lt_irrefl, ri_ws, ri_wn, ri_as, ri_an, upd_s, upd_n, rp_wi, rp_wa, rl_wi, rl_wa, rl_wp, rl_wpa, rl_wl, rp_wl, ri_wl, rp_wd, ri_wd, in_rng, Int32.lt_irrefl, Nat.not_lt_zero, pk_nc, Nat.reduceEqDiff, Nat.succ_ne_self, Nat.one_ne_zero, Nat.add_left_cancel_iff, ri_wpa, ri_wp, QProgram_readArgument_0, icX, h1, c_readNumber hl h60 hpl]
  · by_cases h2 : c = 37
    · simp (disch := first | assumption | (show (_ : Nat) < _; omega) | (show (_ : Nat) ≠ _; omega) | (show (_ : Nat) ≤ _; omega) | exact Or.inl rfl | exact Or.inr rfl) only [hG0, hG1, hG2, hF0, hF1, hA0, hA1, xL, xC, icL, Option.bind_some, Nat.le_add_right, Nat.le_refl, if_true, if_false, and_self, true_and, and_true, or_false, false_or, or_true, true_or, and_false, false_and, not_true_eq_false, not_false_eq_true, Nat.reduceAdd, Nat.reduceLeDiff, Nat.reduceLT, Option.toList_some, Option.toList_none, List.cons_append, List.nil_append, callK_ret, callR_ret, callK_thr, decide_true, Bool.true_and, xNr, bI0, bIT, bIF, ne_eq, Classical.not_not, not_false_eq_true, false_or, List.length_nil, icM, ic_lt, ic_eq, le_nl, ↓reduceIte, Nat.lt_irrefl, ri_ws, ri_wn, ri_as, ri_an, upd_s, upd_n, rp_wi, rp_wa, rl_wi, rl_wa, rl_wp, rl_wpa, rl_wl, rp_wl, ri_wl, rp_wd, ri_wd, in_rng, Int32.lt_irrefl, Nat.not_lt_zero, pk_nc, Nat.reduceEqDiff, Nat.succ_ne_self, Nat.one_ne_zero, Nat.add_left_cancel_iff, ri_wpa, ri_wp, QProgram_readArgument_0, icX, h1, h2, c_rdD hl h60 hpl]
    · simp (disch := first | assumption | (show (_ : Nat) < _; omega) | (show (_ : Nat) ≠ _; omega) | (show (_ : Nat) ≤ _; omega) | exact Or.inl rfl | exact Or.inr rfl) only [hG0, hG1, hG2, hF0, hF1, hA0, hA1, xL, xC, icL, Option.bind_some, Nat.le_add_right, Nat.le_refl, if_true, if_false, and_self, true_and, and_true, or_false, false_or, or_true, true_or, and_false, false_and, not_true_eq_false, not_false_eq_true, Nat.reduceAdd, Nat.reduceLeDiff, Nat.reduceLT, Option.toList_some, Option.toList_none, List.cons_append, List.nil_append, callK_ret, callR_ret, callK_thr, decide_true, Bool.true_and, xNr, bI0, bIT, bIF, ne_eq, Classical.not_not, not_false_eq_true, false_or, List.length_nil, icM, ic_lt, ic_eq, le_nl, ↓reduceIte, Nat.lt_irrefl, ri_ws, ri_wn, ri_as, ri_an, upd_s, upd_n, rp_wi, rp_wa, rl_wi, rl_wa, rl_wp, rl_wpa, rl_wl, rp_wl, ri_wl, rp_wd, ri_wd, in_rng, Int32.lt_irrefl, Nat.not_lt_zero, pk_nc, Nat.reduceEqDiff, Nat.succ_ne_self, Nat.one_ne_zero, Nat.add_left_cancel_iff, ri_wpa, ri_wp, QProgram_readArgument_0, icX, h1, h2, c_rdK hl h60 hpl]
theorem rdDp_le {t : Nat → Int32} {l p : Nat} (h : p ≤ l) : p ≤ rdDp t l p ∧ rdDp t l p ≤ l := by
  unfold rdDp
  split
  · rename_i h1
    have := h1.1
    omega
  · omega
theorem rdNp_le {t : Nat → Int32} {l p : Nat} (h : p ≤ l) : p ≤ rdNp t l p ∧ rdNp t l p ≤ l := by
  unfold rdNp
  split
  · rename_i h1
    have := h1.1
    split
    · rename_i h2
      have := h2.1
      split
      · rename_i h3
        have := h3.1
        omega
      · omega
    · omega
  · omega
theorem rdKp_le {t : Nat → Int32} {l p : Nat} (h : p ≤ l) : p ≤ rdKp t l p ∧ rdKp t l p ≤ l := by
  unfold rdKp rdK
  by_cases h1 : p < l
  · by_cases h2 : kI (t p) = -ic 1
    · rw [if_pos h1, if_pos h2]
      omega
    · rw [if_pos h1, if_neg h2]
      omega
  · rw [if_neg h1, if_pos rfl]
    omega
theorem rdAp_le {t : Nat → Int32} {l p : Nat} (c : Nat) (h : p ≤ l) : p ≤ rdAp t l c p ∧ rdAp t l c p ≤ l := by
  unfold rdAp
  split
  · exact rdNp_le h
  · split
    · exact rdDp_le h
    · exact rdKp_le h
/-- the reader at p, the arguments at k -/
abbrev stM (m : mm) (k : Nat) (a : Nat → Int32) (p : Nat) : mm := atM (wa m k a) p
theorem st_put {k : Nat} (h : k ≠ 269) (a : Nat → Int32) (p q : Nat) (v : Int32) : wi (stM m k a p) k q v = stM m k (upd a q v) p := by
  show wi (wi (wa m k a) 269 2 (ic p)) k q v = wi (wa m k (upd a q v)) 269 2 (ic p)
  rw [show wi (wa m k a) 269 2 (ic p) = wa (wa m k a) 269 (upd (ri m 269) 2 (ic p)) by rw [show wi (wa m k a) 269 2 (ic p) = wa (wa m k a) 269 (upd (ri (wa m k a) 269) 2 (ic p)) from rfl, ri_an _ _ (fun e => h e.symm)],
    show wi (wa m k (upd a q v)) 269 2 (ic p) = wa (wa m k (upd a q v)) 269 (upd (ri m 269) 2 (ic p)) by rw [show wi (wa m k (upd a q v)) 269 2 (ic p) = wa (wa m k (upd a q v)) 269 (upd (ri (wa m k (upd a q v)) 269) 2 (ic p)) from rfl, ri_an _ _ (fun e => h e.symm)],
    wa_comm _ _ _ h, wi_wa, wa_comm _ _ _ (fun e => h e.symm)]
abbrev isA (c : Nat) : Prop := c = 35 ∨ c = 37 ∨ c = 63
def cntA (f : Nat → Nat) : Nat → Nat → Nat
  | _, 0 => 0
  | i, k + 1 => (if isA (f i) then 1 else 0) + cntA f (i + 1) k
/-- a shape read: whether it fits, where the reader comes to, the arguments -/
def rdSh (t : Nat → Int32) (l : Nat) (f : Nat → Nat) : Nat → Nat → Nat → Nat → (Nat → Int32) → Bool × Nat × (Nat → Int32)
  | 0, _, _, p, a => (true, p, a)
  | k + 1, i, kn, p, a => if isA (f i) then (if rdAv t l (f i) p = -ic 1 then (false, rdAp t l (f i) p, a) else rdSh t l f k (i + 1) (kn + 1) (rdAp t l (f i) p) (upd a kn (rdAv t l (f i) p))) else if p < l ∧ t p = ic (f i) then rdSh t l f k (i + 1) kn (p + 1) a else (false, p, a)
theorem rdSh_le {t : Nat → Int32} {l : Nat} {f : Nat → Nat} : ∀ k i kn p a, p ≤ l → p ≤ (rdSh t l f k i kn p a).2.1 ∧ (rdSh t l f k i kn p a).2.1 ≤ l := by
  intro k
  induction k with
  | zero => intro i kn p a h; exact ⟨Nat.le_refl _, h⟩
  | succ k ih =>
    intro i kn p a h
    unfold rdSh
    have hA := rdAp_le (t := t) (f i) h
    split
    · split
      · exact hA
      · have := ih (i + 1) (kn + 1) (rdAp t l (f i) p) (upd a kn (rdAv t l (f i) p)) hA.2
        exact ⟨Nat.le_trans hA.1 this.1, this.2⟩
    · split
      · rename_i h2
        have := ih (i + 1) kn (p + 1) a h2.1
        exact ⟨by omega, this.2⟩
      · exact ⟨Nat.le_refl _, h⟩
end C13
