/-! the class's History, settle, the eleven commands, undo, save, restore; expanded by wip/whole/px.py out of wip/whole/c7.src -/
section C7
variable {n0 N z d b c : Nat} {S0 : Nat → Value} {G : sH} {m : mm}
theorem cpM_rp : rp (cpM m b c) = rp m := by
  unfold cpM
  rw [rp_wl, rp_wl, rp_wi, rp_wa, rp_wa]
  exact (cB_rp 3).1.trans cpA_rp.1
theorem cpM_ri (hJ : JV m b) {q : Nat} (h : q < b ∨ b + 23 ≤ q) : ri (cpM m b c) q = ri m q := by
  unfold cpM
  rw [ri_wl, ri_wl, ri_wn _ _ _ (by omega), ri_an _ _ (by omega), ri_an _ _ (by omega), cB_ri 3 (by omega)]
  exact cpA_ri hJ (by omega) (by omega)
theorem cpM_rl {q : Nat} (h : q ≠ b) (j : Nat) : rl (cpM m b c) q j = rl m q j := by
  unfold cpM
  rw [rl_wl, if_neg (fun z => h z.1), rl_wl, if_neg (fun z => h z.1), rl_wi, rl_wa, rl_wa, (cB_rp 3).2.1, cpA_rp.2.1]
theorem cpM_rd : rd (cpM m b c) = rd m := by
  unfold cpM
  rw [rd_wl, rd_wl, rd_wi, rd_wa, rd_wa, (cB_rp 3).2.2, cpA_rp.2.2]
theorem JV_cpM {a : Nat} (h : JV m a) : JV (cpM m b c) a := by
  unfold JV
  rw [cpM_rp]
  exact h
theorem isS_row {q : Nat} (hq : q < 9) : isS (49 + 23 * q) := Or.inr (Or.inr ⟨q, hq, rfl⟩)
theorem isS_1 : isS 1 := Or.inl rfl
theorem isS_24 : isS 24 := Or.inr (Or.inl rfl)
theorem c_prepare {q : Nat} (hq : q < 9) (h : ri m 47 1 = ic q) (hJ : JV m (49 + 23 * q)) (hJc : JV m 1) : Mt (n0, S0) (d + 3) 9 [.ref (n0 + 47), .ref (n0 + 1)] (hp n0 G m, N, z) = some (.inl none, (hp n0 G (cpM m (49 + 23 * q) 1), N, z)) := by
  have k1 : kd 1 = 1 := rfl
  have k47 : kd 47 = 8 := rfl
  have k48 : kd 48 = 9 := rfl
  have kr := (kd_S0 (isS_row hq)).1
  rw [NHistory_prepare]
  simp (disch := first | assumption | (show (_ : Nat) < _; omega) | (show (_ : Nat) ≠ _; omega) | (show (_ : Nat) ≤ _; omega)) only [hG0, hG1, hG2, hF0, hF1, hA0, hA1, xL, xC, icL, Option.bind_some, Nat.le_add_right, Nat.le_refl, if_true, if_false, and_self, true_and, and_true, or_false, false_or, or_true, true_or, and_false, false_and, not_true_eq_false, not_false_eq_true, Nat.reduceAdd, Nat.reduceLeDiff, Nat.reduceLT, Option.toList_some, Option.toList_none, List.cons_append, List.nil_append, callK_ret, callR_ret, callK_thr, decide_true, Bool.true_and, xNr, bI0, bIT, bIF, ne_eq, Classical.not_not, not_false_eq_true, false_or, List.length_nil, ic_lt, ic_eq, le_nl, ↓reduceIte, Nat.lt_irrefl, ri_ws, ri_wn, ri_as, ri_an, upd_s, upd_n, rp_wi, rp_wa, rl_wi, rl_wa, rl_wp, rl_wpa, rl_wl, rp_wl, ri_wl, rp_wd, ri_wd, in_rng, Int32.lt_irrefl, Nat.not_lt_zero, pk_nc, Nat.reduceEqDiff, Nat.succ_ne_self, Nat.one_ne_zero, Nat.add_left_cancel_iff, ri_wpa, ri_wp, QHistory_prepare_0, h, c_copyFrom (isS_row hq) isS_1 (by omega) hJ hJc]
def cfM (m : mm) : mm := wi (wi m 47 1 (if ri m 47 1 + ic 1 < ic 9 then ri m 47 1 + ic 1 else ic 0)) 47 2 (mN (ri m 47 2 + ic 1) (ic 8))
theorem c_confirm : Mt (n0, S0) (d + 1) 10 [.ref (n0 + 47)] (hp n0 G m, N, z) = some (.inl none, (hp n0 G (cfM m), N, z)) := by
  have k47 : kd 47 = 8 := rfl
  have k48 : kd 48 = 9 := rfl
  rw [NHistory_confirm]
  by_cases h : ri m 47 1 + ic 1 < ic 9 <;> simp (disch := first | assumption | (show (_ : Nat) < _; omega) | (show (_ : Nat) ≠ _; omega) | (show (_ : Nat) ≤ _; omega)) only [hG0, hG1, hG2, hF0, hF1, hA0, hA1, xL, xC, icL, Option.bind_some, Nat.le_add_right, Nat.le_refl, if_true, if_false, and_self, true_and, and_true, or_false, false_or, or_true, true_or, and_false, false_and, not_true_eq_false, not_false_eq_true, Nat.reduceAdd, Nat.reduceLeDiff, Nat.reduceLT, Option.toList_some, Option.toList_none, List.cons_append, List.nil_append, callK_ret, callR_ret, callK_thr, decide_true, Bool.true_and, xNr, bI0, bIT, bIF, ne_eq, Classical.not_not, not_false_eq_true, false_or, List.length_nil, ic_lt, ic_eq, le_nl, ↓reduceIte, Nat.lt_irrefl, ri_ws, ri_wn, ri_as, ri_an, upd_s, upd_n, rp_wi, rp_wa, rl_wi, rl_wa, rl_wp, rl_wpa, rl_wl, rp_wl, ri_wl, rp_wd, ri_wd, in_rng, Int32.lt_irrefl, Nat.not_lt_zero, pk_nc, Nat.reduceEqDiff, Nat.succ_ne_self, Nat.one_ne_zero, Nat.add_left_cancel_iff, ri_wpa, ri_wp, QHistory_confirm_0, h, cfM, mN]
theorem c_abandon {q : Nat} (hq : q < 9) (h : ri m 47 1 = ic q) (hJ : JV m (49 + 23 * q)) (hJc : JV m 1) : Mt (n0, S0) (d + 3) 11 [.ref (n0 + 47), .ref (n0 + 1)] (hp n0 G m, N, z) = some (.inl none, (hp n0 G (cpM m 1 (49 + 23 * q)), N, z)) := by
  have k1 : kd 1 = 1 := rfl
  have k47 : kd 47 = 8 := rfl
  have k48 : kd 48 = 9 := rfl
  have kr := (kd_S0 (isS_row hq)).1
  rw [NHistory_abandon]
  simp (disch := first | assumption | (show (_ : Nat) < _; omega) | (show (_ : Nat) ≠ _; omega) | (show (_ : Nat) ≤ _; omega)) only [hG0, hG1, hG2, hF0, hF1, hA0, hA1, xL, xC, icL, Option.bind_some, Nat.le_add_right, Nat.le_refl, if_true, if_false, and_self, true_and, and_true, or_false, false_or, or_true, true_or, and_false, false_and, not_true_eq_false, not_false_eq_true, Nat.reduceAdd, Nat.reduceLeDiff, Nat.reduceLT, Option.toList_some, Option.toList_none, List.cons_append, List.nil_append, callK_ret, callR_ret, callK_thr, decide_true, Bool.true_and, xNr, bI0, bIT, bIF, ne_eq, Classical.not_not, not_false_eq_true, false_or, List.length_nil, ic_lt, ic_eq, le_nl, ↓reduceIte, Nat.lt_irrefl, ri_ws, ri_wn, ri_as, ri_an, upd_s, upd_n, rp_wi, rp_wa, rl_wi, rl_wa, rl_wp, rl_wpa, rl_wl, rp_wl, ri_wl, rp_wd, ri_wd, in_rng, Int32.lt_irrefl, Nat.not_lt_zero, pk_nc, Nat.reduceEqDiff, Nat.succ_ne_self, Nat.one_ne_zero, Nat.add_left_cancel_iff, ri_wpa, ri_wp, QHistory_abandon_0, h, c_copyFrom isS_1 (isS_row hq) (by omega) hJc hJ]
def tbQ (q : Nat) : Nat := if 0 < q then q - 1 else 8
def tbM (m : mm) (q : Nat) : mm := cpM (wi (wi m 47 1 (ic (tbQ q))) 47 2 (ri m 47 2 - ic 1)) 1 (49 + 23 * tbQ q)
theorem c_takeBack {q : Nat} (hq : q < 9) (h : ri m 47 1 = ic q) (hJ : ∀ q, q < 9 → JV m (49 + 23 * q)) (hJc : JV m 1) : Mt (n0, S0) (d + 3) 12 [.ref (n0 + 47), .ref (n0 + 1)] (hp n0 G m, N, z) = some (.inl none, (hp n0 G (tbM m q), N, z)) := by
  have k1 : kd 1 = 1 := rfl
  have k47 : kd 47 = 8 := rfl
  have k48 : kd 48 = 9 := rfl
  rw [NHistory_takeBack]
  have hc := fun (v1 v2 : Int32) (q : Nat) (hq : q < 9) (d N z : Nat) => c_copyFrom (n0 := n0) (S0 := S0) (G := G) (d := d) (N := N) (z := z) (m := wi (wi m 47 1 v1) 47 2 v2) isS_1 (isS_row hq) (by omega) hJc (hJ q hq)
  by_cases h0 : 0 < q
  · have e : ic q - ic 1 = ic (q - 1) := ic_sub (by omega)
    have hq1 : q - 1 < 9 := by omega
    simp (disch := first | assumption | (show (_ : Nat) < _; omega) | (show (_ : Nat) ≠ _; omega) | (show (_ : Nat) ≤ _; omega)) only [hG0, hG1, hG2, hF0, hF1, hA0, hA1, xL, xC, icL, Option.bind_some, Nat.le_add_right, Nat.le_refl, if_true, if_false, and_self, true_and, and_true, or_false, false_or, or_true, true_or, and_false, false_and, not_true_eq_false, not_false_eq_true, Nat.reduceAdd, Nat.reduceLeDiff, Nat.reduceLT, Option.toList_some, Option.toList_none, List.cons_append, List.nil_append, callK_ret, callR_ret, callK_thr, decide_true, Bool.true_and, xNr, bI0, bIT, bIF, ne_eq, Classical.not_not, not_false_eq_true, false_or, List.length_nil, ic_lt, ic_eq, le_nl, ↓reduceIte, Nat.lt_irrefl, ri_ws, ri_wn, ri_as, ri_an, upd_s, upd_n, rp_wi, rp_wa, rl_wi, rl_wa, rl_wp, rl_wpa, rl_wl, rp_wl, ri_wl, rp_wd, ri_wd, in_rng, Int32.lt_irrefl, Nat.not_lt_zero, pk_nc, Nat.reduceEqDiff, Nat.succ_ne_self, Nat.one_ne_zero, Nat.add_left_cancel_iff, ri_wpa, ri_wp, QHistory_takeBack_0, QHistory_takeBack_1, h, h0, tbM, tbQ, e, hc]
  · obtain rfl : q = 0 := by omega
    simp (disch := first | assumption | (show (_ : Nat) < _; omega) | (show (_ : Nat) ≠ _; omega) | (show (_ : Nat) ≤ _; omega)) only [hG0, hG1, hG2, hF0, hF1, hA0, hA1, xL, xC, icL, Option.bind_some, Nat.le_add_right, Nat.le_refl, if_true, if_false, and_self, true_and, and_true, or_false, false_or, or_true, true_or, and_false, false_and, not_true_eq_false, not_false_eq_true, Nat.reduceAdd, Nat.reduceLeDiff, Nat.reduceLT, Option.toList_some, Option.toList_none, List.cons_append, List.nil_append, callK_ret, callR_ret, callK_thr, decide_true, Bool.true_and, xNr, bI0, bIT, bIF, ne_eq, Classical.not_not, not_false_eq_true, false_or, List.length_nil, ic_lt, ic_eq, le_nl, ↓reduceIte, Nat.lt_irrefl, ri_ws, ri_wn, ri_as, ri_an, upd_s, upd_n, rp_wi, rp_wa, rl_wi, rl_wa, rl_wp, rl_wpa, rl_wl, rp_wl, ri_wl, rp_wd, ri_wd, in_rng, Int32.lt_irrefl, Nat.not_lt_zero, pk_nc, Nat.reduceEqDiff, Nat.succ_ne_self, Nat.one_ne_zero, Nat.add_left_cancel_iff, ri_wpa, ri_wp, QHistory_takeBack_0, QHistory_takeBack_1, h, tbM, tbQ, hc]
theorem c_forget : Mt (n0, S0) (d + 1) 13 [.ref (n0 + 47)] (hp n0 G m, N, z) = some (.inl none, (hp n0 G (wi m 47 2 (ic 0)), N, z)) := by
  have k47 : kd 47 = 8 := rfl
  rw [NHistory_forget]
  simp (disch := first | assumption | (show (_ : Nat) < _; omega) | (show (_ : Nat) ≠ _; omega) | (show (_ : Nat) ≤ _; omega)) only [hG0, hG1, hG2, hF0, hF1, hA0, hA1, xL, xC, icL, Option.bind_some, Nat.le_add_right, Nat.le_refl, if_true, if_false, and_self, true_and, and_true, or_false, false_or, or_true, true_or, and_false, false_and, not_true_eq_false, not_false_eq_true, Nat.reduceAdd, Nat.reduceLeDiff, Nat.reduceLT, Option.toList_some, Option.toList_none, List.cons_append, List.nil_append, callK_ret, callR_ret, callK_thr, decide_true, Bool.true_and, xNr, bI0, bIT, bIF, ne_eq, Classical.not_not, not_false_eq_true, false_or, List.length_nil, ic_lt, ic_eq, le_nl, ↓reduceIte, Nat.lt_irrefl, ri_ws, ri_wn, ri_as, ri_an, upd_s, upd_n, rp_wi, rp_wa, rl_wi, rl_wa, rl_wp, rl_wpa, rl_wl, rp_wl, ri_wl, rp_wd, ri_wd, in_rng, Int32.lt_irrefl, Nat.not_lt_zero, pk_nc, Nat.reduceEqDiff, Nat.succ_ne_self, Nat.one_ne_zero, Nat.add_left_cancel_iff, ri_wpa, ri_wp, QHistory_forget_0]
/-- how a change ends -/
def stl (n0 : Nat) (G : sH) (m : mm) (N z : Nat) (r : Int32) : sO :=
  if r = -ic 1 then (.inr "java/lang/IllegalArgumentException", (hp n0 G m, N + 1, z + 6))
  else if r = -ic 2 then (.inr "java/lang/IllegalStateException", (hp n0 G m, N + 1, z + 6))
  else if r = -ic 3 then (.inr "java/lang/IndexOutOfBoundsException", (hp n0 G m, N + 1, z + 6))
  else if r = -ic 4 then (.inr "java/util/NoSuchElementException", (hp n0 G m, N + 1, z + 6))
  else if r = -ic 5 then (.inr "java/lang/UnsupportedOperationException", (hp n0 G m, N + 1, z + 6))
  else (.inl (some (.int r)), (hp n0 G (cfM m), N, z))
theorem icN : (-ic 1 = (-1 : Int32)) ∧ (-ic 2 = (-2 : Int32)) ∧ (-ic 3 = (-3 : Int32)) ∧ (-ic 4 = (-4 : Int32)) ∧ (-ic 5 = (-5 : Int32)) := ⟨rfl, rfl, rfl, rfl, rfl⟩
theorem c_settle {r : Int32} : Mt (n0, S0) (d + 2) 78 [.ref n0, .int r] (hp n0 G m, N, z) = some (stl n0 G m N z r) := by
  have k47 : kd 47 = 8 := rfl
  rw [NMain_settle]
  unfold stl
  by_cases h1 : r = -ic 1
  · subst h1
    rw [icN.1, QMain_settle_0.1, QMain_settle_0.2.2.2.2.2.1]
    simp (disch := first | assumption | (show (_ : Nat) < _; omega) | (show (_ : Nat) ≠ _; omega) | (show (_ : Nat) ≤ _; omega)) only [hG0, hG1, hG2, hF0, hF1, hA0, hA1, xL, xC, icL, Option.bind_some, Nat.le_add_right, Nat.le_refl, if_true, if_false, and_self, true_and, and_true, or_false, false_or, or_true, true_or, and_false, false_and, not_true_eq_false, not_false_eq_true, Nat.reduceAdd, Nat.reduceLeDiff, Nat.reduceLT, Option.toList_some, Option.toList_none, List.cons_append, List.nil_append, callK_ret, callR_ret, callK_thr, decide_true, Bool.true_and, xNr, bI0, bIT, bIF, ne_eq, Classical.not_not, not_false_eq_true, false_or, List.length_nil, ic_lt, ic_eq, le_nl, ↓reduceIte, Nat.lt_irrefl, ri_ws, ri_wn, ri_as, ri_an, upd_s, upd_n, rp_wi, rp_wa, rl_wi, rl_wa, rl_wp, rl_wpa, rl_wl, rp_wl, ri_wl, rp_wd, ri_wd, in_rng, Int32.lt_irrefl, Nat.not_lt_zero, pk_nc, Nat.reduceEqDiff, Nat.succ_ne_self, Nat.one_ne_zero, Nat.add_left_cancel_iff, ri_wpa, ri_wp, QMain_settle_0]
  · by_cases h2 : r = -ic 2
    · subst h2
      rw [icN.2.1, QMain_settle_0.1, QMain_settle_0.2.2.2.2.1]
      simp (disch := first | assumption | (show (_ : Nat) < _; omega) | (show (_ : Nat) ≠ _; omega) | (show (_ : Nat) ≤ _; omega)) only [hG0, hG1, hG2, hF0, hF1, hA0, hA1, xL, xC, icL, Option.bind_some, Nat.le_add_right, Nat.le_refl, if_true, if_false, and_self, true_and, and_true, or_false, false_or, or_true, true_or, and_false, false_and, not_true_eq_false, not_false_eq_true, Nat.reduceAdd, Nat.reduceLeDiff, Nat.reduceLT, Option.toList_some, Option.toList_none, List.cons_append, List.nil_append, callK_ret, callR_ret, callK_thr, decide_true, Bool.true_and, xNr, bI0, bIT, bIF, ne_eq, Classical.not_not, not_false_eq_true, false_or, List.length_nil, ic_lt, ic_eq, le_nl, ↓reduceIte, Nat.lt_irrefl, ri_ws, ri_wn, ri_as, ri_an, upd_s, upd_n, rp_wi, rp_wa, rl_wi, rl_wa, rl_wp, rl_wpa, rl_wl, rp_wl, ri_wl, rp_wd, ri_wd, in_rng, Int32.lt_irrefl, Nat.not_lt_zero, pk_nc, Nat.reduceEqDiff, Nat.succ_ne_self, Nat.one_ne_zero, Nat.add_left_cancel_iff, ri_wpa, ri_wp, QMain_settle_0, h1]
    · by_cases h3 : r = -ic 3
      · subst h3
        rw [icN.2.2.1, QMain_settle_0.1, QMain_settle_0.2.2.2.1]
        simp (disch := first | assumption | (show (_ : Nat) < _; omega) | (show (_ : Nat) ≠ _; omega) | (show (_ : Nat) ≤ _; omega)) only [hG0, hG1, hG2, hF0, hF1, hA0, hA1, xL, xC, icL, Option.bind_some, Nat.le_add_right, Nat.le_refl, if_true, if_false, and_self, true_and, and_true, or_false, false_or, or_true, true_or, and_false, false_and, not_true_eq_false, not_false_eq_true, Nat.reduceAdd, Nat.reduceLeDiff, Nat.reduceLT, Option.toList_some, Option.toList_none, List.cons_append, List.nil_append, callK_ret, callR_ret, callK_thr, decide_true, Bool.true_and, xNr, bI0, bIT, bIF, ne_eq, Classical.not_not, not_false_eq_true, false_or, List.length_nil, ic_lt, ic_eq, le_nl, ↓reduceIte, Nat.lt_irrefl, ri_ws, ri_wn, ri_as, ri_an, upd_s, upd_n, rp_wi, rp_wa, rl_wi, rl_wa, rl_wp, rl_wpa, rl_wl, rp_wl, ri_wl, rp_wd, ri_wd, in_rng, Int32.lt_irrefl, Nat.not_lt_zero, pk_nc, Nat.reduceEqDiff, Nat.succ_ne_self, Nat.one_ne_zero, Nat.add_left_cancel_iff, ri_wpa, ri_wp, QMain_settle_0, h1, h2]
      · by_cases h4 : r = -ic 4
        · subst h4
          rw [icN.2.2.2.1, QMain_settle_0.1, QMain_settle_0.2.2.1]
          simp (disch := first | assumption | (show (_ : Nat) < _; omega) | (show (_ : Nat) ≠ _; omega) | (show (_ : Nat) ≤ _; omega)) only [hG0, hG1, hG2, hF0, hF1, hA0, hA1, xL, xC, icL, Option.bind_some, Nat.le_add_right, Nat.le_refl, if_true, if_false, and_self, true_and, and_true, or_false, false_or, or_true, true_or, and_false, false_and, not_true_eq_false, not_false_eq_true, Nat.reduceAdd, Nat.reduceLeDiff, Nat.reduceLT, Option.toList_some, Option.toList_none, List.cons_append, List.nil_append, callK_ret, callR_ret, callK_thr, decide_true, Bool.true_and, xNr, bI0, bIT, bIF, ne_eq, Classical.not_not, not_false_eq_true, false_or, List.length_nil, ic_lt, ic_eq, le_nl, ↓reduceIte, Nat.lt_irrefl, ri_ws, ri_wn, ri_as, ri_an, upd_s, upd_n, rp_wi, rp_wa, rl_wi, rl_wa, rl_wp, rl_wpa, rl_wl, rp_wl, ri_wl, rp_wd, ri_wd, in_rng, Int32.lt_irrefl, Nat.not_lt_zero, pk_nc, Nat.reduceEqDiff, Nat.succ_ne_self, Nat.one_ne_zero, Nat.add_left_cancel_iff, ri_wpa, ri_wp, QMain_settle_0, h1, h2, h3]
        · by_cases h5 : r = -ic 5
          · subst h5
            rw [icN.2.2.2.2, QMain_settle_0.1, QMain_settle_0.2.1]
            simp (disch := first | assumption | (show (_ : Nat) < _; omega) | (show (_ : Nat) ≠ _; omega) | (show (_ : Nat) ≤ _; omega)) only [hG0, hG1, hG2, hF0, hF1, hA0, hA1, xL, xC, icL, Option.bind_some, Nat.le_add_right, Nat.le_refl, if_true, if_false, and_self, true_and, and_true, or_false, false_or, or_true, true_or, and_false, false_and, not_true_eq_false, not_false_eq_true, Nat.reduceAdd, Nat.reduceLeDiff, Nat.reduceLT, Option.toList_some, Option.toList_none, List.cons_append, List.nil_append, callK_ret, callR_ret, callK_thr, decide_true, Bool.true_and, xNr, bI0, bIT, bIF, ne_eq, Classical.not_not, not_false_eq_true, false_or, List.length_nil, ic_lt, ic_eq, le_nl, ↓reduceIte, Nat.lt_irrefl, ri_ws, ri_wn, ri_as, ri_an, upd_s, upd_n, rp_wi, rp_wa, rl_wi, rl_wa, rl_wp, rl_wpa, rl_wl, rp_wl, ri_wl, rp_wd, ri_wd, in_rng, Int32.lt_irrefl, Nat.not_lt_zero, pk_nc, Nat.reduceEqDiff, Nat.succ_ne_self, Nat.one_ne_zero, Nat.add_left_cancel_iff, ri_wpa, ri_wp, QMain_settle_0, h1, h2, h3, h4]
          · have ho : r.toInt < -5 ∨ -1 < r.toInt := by
              rcases Int.lt_trichotomy r.toInt (-1) with h | h | h
              · rcases Int.lt_trichotomy r.toInt (-5) with g | g | g
                · exact Or.inl g
                · exact absurd (Int32.toInt_inj.mp (g.trans (by decide : (-5 : Int) = (-ic 5).toInt))) h5
                · have : r.toInt = -4 ∨ r.toInt = -3 ∨ r.toInt = -2 := by omega
                  rcases this with g | g | g
                  · exact absurd (Int32.toInt_inj.mp (g.trans (by decide : (-4 : Int) = (-ic 4).toInt))) h4
                  · exact absurd (Int32.toInt_inj.mp (g.trans (by decide : (-3 : Int) = (-ic 3).toInt))) h3
                  · exact absurd (Int32.toInt_inj.mp (g.trans (by decide : (-2 : Int) = (-ic 2).toInt))) h2
              · exact absurd (Int32.toInt_inj.mp (h.trans (by decide : (-1 : Int) = (-ic 1).toInt))) h1
              · exact Or.inr h
            simp (disch := first | assumption | (show (_ : Nat) < _; omega) | (show (_ : Nat) ≠ _; omega) | (show (_ : Nat) ≤ _; omega)) only [hG0, hG1, hG2, hF0, hF1, hA0, hA1, xL, xC, icL, Option.bind_some, Nat.le_add_right, Nat.le_refl, if_true, if_false, and_self, true_and, and_true, or_false, false_or, or_true, true_or, and_false, false_and, not_true_eq_false, not_false_eq_true, Nat.reduceAdd, Nat.reduceLeDiff, Nat.reduceLT, Option.toList_some, Option.toList_none, List.cons_append, List.nil_append, callK_ret, callR_ret, callK_thr, decide_true, Bool.true_and, xNr, bI0, bIT, bIF, ne_eq, Classical.not_not, not_false_eq_true, false_or, List.length_nil, ic_lt, ic_eq, le_nl, ↓reduceIte, Nat.lt_irrefl, ri_ws, ri_wn, ri_as, ri_an, upd_s, upd_n, rp_wi, rp_wa, rl_wi, rl_wa, rl_wp, rl_wpa, rl_wl, rp_wl, ri_wl, rp_wd, ri_wd, in_rng, Int32.lt_irrefl, Nat.not_lt_zero, pk_nc, Nat.reduceEqDiff, Nat.succ_ne_self, Nat.one_ne_zero, Nat.add_left_cancel_iff, ri_wpa, ri_wp, QMain_settle_0, h1, h2, h3, h4, h5, ho, c_confirm]
end C7
