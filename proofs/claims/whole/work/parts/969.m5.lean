/-! the reference's commands; by wip/whole/gen_m5.py, expanded by px.py -/
section M5
variable {n0 N z d : Nat} {S0 : Nat → Value} {G : sH} {m m2 : mm}
theorem m_addJobNo {x y k t w u why : Int32} (hw : ∀ d N z, Mt (n0, S0) (d + 3) 132 [.ref (n0 + 292), .int x, .int y, .int k, .int t, .int w, .int u] (hp n0 G (bgM m), N, z) = oI n0 G (bgM m) N z why) (hq : ic 0 < why) : Mt (n0, S0) (d + 5) 129 [.ref (n0 + 292), .int x, .int y, .int k, .int t, .int w, .int u] (hp n0 G m, N, z) = oI n0 G (wi (bgM m) 292 6 why) N z (ic 0) := by
  have k292 : kd 292 = 18 := rfl
  have k293 : kd 293 = 19 := rfl
  unfold oI at hw
  have k292 : kd 292 = 18 := rfl
  have k293 : kd 293 = 19 := rfl
  rw [NModel_addJob]
  simp (disch := first | assumption | (show (_ : Nat) < _; omega) | (show (_ : Nat) ≠ _; omega) | (show (_ : Nat) ≤ _; omega) | exact Or.inl rfl | exact Or.inr rfl) only [hG0, hG1, hG2, hF0, hF1, hA0, hA1, xL, xC, icL, Option.bind_some, Nat.le_add_right, Nat.le_refl, if_true, if_false, and_self, true_and, and_true, or_false, false_or, or_true, true_or, and_false, false_and, not_true_eq_false, not_false_eq_true, Nat.reduceAdd, Nat.reduceLeDiff, Nat.reduceLT, Option.toList_some, Option.toList_none, List.cons_append, List.nil_append, callK_ret, callR_ret, callK_thr, decide_true, Bool.true_and, xNr, bI0, bIT, bIF, ne_eq, Classical.not_not, not_false_eq_true, false_or, List.length_nil, icM, ic_lt, ic_eq, le_nl, ↓reduceIte, Nat.lt_irrefl, ri_ws, ri_wn, ri_as, ri_an, upd_s, upd_n, rp_wi, rp_wa, rl_wi, rl_wa, rl_wp, rl_wpa, rl_wl, rp_wl, ri_wl, rp_wd, ri_wd, in_rng, Int32.lt_irrefl, Nat.not_lt_zero, pk_nc, Nat.reduceEqDiff, Nat.succ_ne_self, Nat.one_ne_zero, Nat.add_left_cancel_iff, ri_wpa, ri_wp, QModel_addJob_0, QModel_addJob_1, m_begin, hw, hq, m_fail, ic_add]
theorem m_addJobOk {x y k t w u r : Int32} {dp : Nat} (hw : ∀ d N z, Mt (n0, S0) (d + 3) 132 [.ref (n0 + 292), .int x, .int y, .int k, .int t, .int w, .int u] (hp n0 G (bgM m), N, z) = oI n0 G (bgM m) N z (ic 0)) (hop : ∀ d N z, Mt (n0, S0) (d + 1) 137 [.ref (n0 + 292), .int x, .int y, .int k, .int t, .int w, .int u] (hp n0 G (bgM m), N, z) = oI n0 G m2 N z r) (hd : ri m2 292 7 = ic dp) (h8 : dp ≤ 8) : Mt (n0, S0) (d + 5) 129 [.ref (n0 + 292), .int x, .int y, .int k, .int t, .int w, .int u] (hp n0 G m, N, z) = oI n0 G (cmM m2 dp) N z r := by
  have k292 : kd 292 = 18 := rfl
  have k293 : kd 293 = 19 := rfl
  unfold oI at hw hop
  have k292 : kd 292 = 18 := rfl
  have k293 : kd 293 = 19 := rfl
  rw [NModel_addJob]
  simp (disch := first | assumption | (show (_ : Nat) < _; omega) | (show (_ : Nat) ≠ _; omega) | (show (_ : Nat) ≤ _; omega) | exact Or.inl rfl | exact Or.inr rfl) only [hG0, hG1, hG2, hF0, hF1, hA0, hA1, xL, xC, icL, Option.bind_some, Nat.le_add_right, Nat.le_refl, if_true, if_false, and_self, true_and, and_true, or_false, false_or, or_true, true_or, and_false, false_and, not_true_eq_false, not_false_eq_true, Nat.reduceAdd, Nat.reduceLeDiff, Nat.reduceLT, Option.toList_some, Option.toList_none, List.cons_append, List.nil_append, callK_ret, callR_ret, callK_thr, decide_true, Bool.true_and, xNr, bI0, bIT, bIF, ne_eq, Classical.not_not, not_false_eq_true, false_or, List.length_nil, icM, ic_lt, ic_eq, le_nl, ↓reduceIte, Nat.lt_irrefl, ri_ws, ri_wn, ri_as, ri_an, upd_s, upd_n, rp_wi, rp_wa, rl_wi, rl_wa, rl_wp, rl_wpa, rl_wl, rp_wl, ri_wl, rp_wd, ri_wd, in_rng, Int32.lt_irrefl, Nat.not_lt_zero, pk_nc, Nat.reduceEqDiff, Nat.succ_ne_self, Nat.one_ne_zero, Nat.add_left_cancel_iff, ri_wpa, ri_wp, QModel_addJob_0, QModel_addJob_1, m_begin, hw, hop, m_commit hd h8, ic_add]
theorem m_assignNo {j w why : Int32} (hw : ∀ d N z, Mt (n0, S0) (d + 3) 144 [.ref (n0 + 292), .int j, .int w] (hp n0 G (bgM m), N, z) = oI n0 G (bgM m) N z why) (hq : ic 0 < why) : Mt (n0, S0) (d + 5) 143 [.ref (n0 + 292), .int j, .int w] (hp n0 G m, N, z) = oI n0 G (wi (bgM m) 292 6 why) N z (ic 0) := by
  have k292 : kd 292 = 18 := rfl
  have k293 : kd 293 = 19 := rfl
  unfold oI at hw
  have k292 : kd 292 = 18 := rfl
  have k293 : kd 293 = 19 := rfl
  rw [NModel_assign]
  simp (disch := first | assumption | (show (_ : Nat) < _; omega) | (show (_ : Nat) ≠ _; omega) | (show (_ : Nat) ≤ _; omega) | exact Or.inl rfl | exact Or.inr rfl) only [hG0, hG1, hG2, hF0, hF1, hA0, hA1, xL, xC, icL, Option.bind_some, Nat.le_add_right, Nat.le_refl, if_true, if_false, and_self, true_and, and_true, or_false, false_or, or_true, true_or, and_false, false_and, not_true_eq_false, not_false_eq_true, Nat.reduceAdd, Nat.reduceLeDiff, Nat.reduceLT, Option.toList_some, Option.toList_none, List.cons_append, List.nil_append, callK_ret, callR_ret, callK_thr, decide_true, Bool.true_and, xNr, bI0, bIT, bIF, ne_eq, Classical.not_not, not_false_eq_true, false_or, List.length_nil, icM, ic_lt, ic_eq, le_nl, ↓reduceIte, Nat.lt_irrefl, ri_ws, ri_wn, ri_as, ri_an, upd_s, upd_n, rp_wi, rp_wa, rl_wi, rl_wa, rl_wp, rl_wpa, rl_wl, rp_wl, ri_wl, rp_wd, ri_wd, in_rng, Int32.lt_irrefl, Nat.not_lt_zero, pk_nc, Nat.reduceEqDiff, Nat.succ_ne_self, Nat.one_ne_zero, Nat.add_left_cancel_iff, ri_wpa, ri_wp, QModel_assign_0, m_begin, hw, hq, m_fail, ic_add]
theorem m_assignOk {j w r : Int32} {dp : Nat} (hw : ∀ d N z, Mt (n0, S0) (d + 3) 144 [.ref (n0 + 292), .int j, .int w] (hp n0 G (bgM m), N, z) = oI n0 G (bgM m) N z (ic 0)) (hop : ∀ d N z, Mt (n0, S0) (d + 3) 147 [.ref (n0 + 292), .int j, .int w] (hp n0 G (bgM m), N, z) = oI n0 G m2 N z r) (hd : ri m2 292 7 = ic dp) (h8 : dp ≤ 8) : Mt (n0, S0) (d + 5) 143 [.ref (n0 + 292), .int j, .int w] (hp n0 G m, N, z) = oI n0 G (cmM m2 dp) N z r := by
  have k292 : kd 292 = 18 := rfl
  have k293 : kd 293 = 19 := rfl
  unfold oI at hw hop
  have k292 : kd 292 = 18 := rfl
  have k293 : kd 293 = 19 := rfl
  rw [NModel_assign]
  simp (disch := first | assumption | (show (_ : Nat) < _; omega) | (show (_ : Nat) ≠ _; omega) | (show (_ : Nat) ≤ _; omega) | exact Or.inl rfl | exact Or.inr rfl) only [hG0, hG1, hG2, hF0, hF1, hA0, hA1, xL, xC, icL, Option.bind_some, Nat.le_add_right, Nat.le_refl, if_true, if_false, and_self, true_and, and_true, or_false, false_or, or_true, true_or, and_false, false_and, not_true_eq_false, not_false_eq_true, Nat.reduceAdd, Nat.reduceLeDiff, Nat.reduceLT, Option.toList_some, Option.toList_none, List.cons_append, List.nil_append, callK_ret, callR_ret, callK_thr, decide_true, Bool.true_and, xNr, bI0, bIT, bIF, ne_eq, Classical.not_not, not_false_eq_true, false_or, List.length_nil, icM, ic_lt, ic_eq, le_nl, ↓reduceIte, Nat.lt_irrefl, ri_ws, ri_wn, ri_as, ri_an, upd_s, upd_n, rp_wi, rp_wa, rl_wi, rl_wa, rl_wp, rl_wpa, rl_wl, rp_wl, ri_wl, rp_wd, ri_wd, in_rng, Int32.lt_irrefl, Nat.not_lt_zero, pk_nc, Nat.reduceEqDiff, Nat.succ_ne_self, Nat.one_ne_zero, Nat.add_left_cancel_iff, ri_wpa, ri_wp, QModel_assign_0, m_begin, hw, hop, m_commit hd h8, ic_add]
theorem m_unassignNo {j why : Int32} (hw : ∀ d N z, Mt (n0, S0) (d + 3) 149 [.ref (n0 + 292), .int j] (hp n0 G (bgM m), N, z) = oI n0 G (bgM m) N z why) (hq : ic 0 < why) : Mt (n0, S0) (d + 5) 148 [.ref (n0 + 292), .int j] (hp n0 G m, N, z) = oI n0 G (wi (bgM m) 292 6 why) N z (ic 0) := by
  have k292 : kd 292 = 18 := rfl
  have k293 : kd 293 = 19 := rfl
  unfold oI at hw
  have k292 : kd 292 = 18 := rfl
  have k293 : kd 293 = 19 := rfl
  rw [NModel_unassign]
  simp (disch := first | assumption | (show (_ : Nat) < _; omega) | (show (_ : Nat) ≠ _; omega) | (show (_ : Nat) ≤ _; omega) | exact Or.inl rfl | exact Or.inr rfl) only [hG0, hG1, hG2, hF0, hF1, hA0, hA1, xL, xC, icL, Option.bind_some, Nat.le_add_right, Nat.le_refl, if_true, if_false, and_self, true_and, and_true, or_false, false_or, or_true, true_or, and_false, false_and, not_true_eq_false, not_false_eq_true, Nat.reduceAdd, Nat.reduceLeDiff, Nat.reduceLT, Option.toList_some, Option.toList_none, List.cons_append, List.nil_append, callK_ret, callR_ret, callK_thr, decide_true, Bool.true_and, xNr, bI0, bIT, bIF, ne_eq, Classical.not_not, not_false_eq_true, false_or, List.length_nil, icM, ic_lt, ic_eq, le_nl, ↓reduceIte, Nat.lt_irrefl, ri_ws, ri_wn, ri_as, ri_an, upd_s, upd_n, rp_wi, rp_wa, rl_wi, rl_wa, rl_wp, rl_wpa, rl_wl, rp_wl, ri_wl, rp_wd, ri_wd, in_rng, Int32.lt_irrefl, Nat.not_lt_zero, pk_nc, Nat.reduceEqDiff, Nat.succ_ne_self, Nat.one_ne_zero, Nat.add_left_cancel_iff, ri_wpa, ri_wp, QModel_unassign_0, m_begin, hw, hq, m_fail, ic_add]
theorem m_unassignOk {j r : Int32} {dp : Nat} (hw : ∀ d N z, Mt (n0, S0) (d + 3) 149 [.ref (n0 + 292), .int j] (hp n0 G (bgM m), N, z) = oI n0 G (bgM m) N z (ic 0)) (hop : ∀ d N z, Mt (n0, S0) (d + 3) 150 [.ref (n0 + 292), .int j] (hp n0 G (bgM m), N, z) = oI n0 G m2 N z r) (hd : ri m2 292 7 = ic dp) (h8 : dp ≤ 8) : Mt (n0, S0) (d + 5) 148 [.ref (n0 + 292), .int j] (hp n0 G m, N, z) = oI n0 G (cmM m2 dp) N z r := by
  have k292 : kd 292 = 18 := rfl
  have k293 : kd 293 = 19 := rfl
  unfold oI at hw hop
  have k292 : kd 292 = 18 := rfl
  have k293 : kd 293 = 19 := rfl
  rw [NModel_unassign]
  simp (disch := first | assumption | (show (_ : Nat) < _; omega) | (show (_ : Nat) ≠ _; omega) | (show (_ : Nat) ≤ _; omega) | exact Or.inl rfl | exact Or.inr rfl) only [hG0, hG1, hG2, hF0, hF1, hA0, hA1, xL, xC, icL, Option.bind_some, Nat.le_add_right, Nat.le_refl, if_true, if_false, and_self, true_and, and_true, or_false, false_or, or_true, true_or, and_false, false_and, not_true_eq_false, not_false_eq_true, Nat.reduceAdd, Nat.reduceLeDiff, Nat.reduceLT, Option.toList_some, Option.toList_none, List.cons_append, List.nil_append, callK_ret, callR_ret, callK_thr, decide_true, Bool.true_and, xNr, bI0, bIT, bIF, ne_eq, Classical.not_not, not_false_eq_true, false_or, List.length_nil, icM, ic_lt, ic_eq, le_nl, ↓reduceIte, Nat.lt_irrefl, ri_ws, ri_wn, ri_as, ri_an, upd_s, upd_n, rp_wi, rp_wa, rl_wi, rl_wa, rl_wp, rl_wpa, rl_wl, rp_wl, ri_wl, rp_wd, ri_wd, in_rng, Int32.lt_irrefl, Nat.not_lt_zero, pk_nc, Nat.reduceEqDiff, Nat.succ_ne_self, Nat.one_ne_zero, Nat.add_left_cancel_iff, ri_wpa, ri_wp, QModel_unassign_0, m_begin, hw, hop, m_commit hd h8, ic_add]
theorem m_addStockNo {k c why : Int32} (hw : ∀ d N z, Mt (n0, S0) (d + 3) 152 [.ref (n0 + 292), .int k, .int c] (hp n0 G (bgM m), N, z) = oI n0 G (bgM m) N z why) (hq : ic 0 < why) : Mt (n0, S0) (d + 5) 151 [.ref (n0 + 292), .int k, .int c] (hp n0 G m, N, z) = oI n0 G (wi (bgM m) 292 6 why) N z (ic 0) := by
  have k292 : kd 292 = 18 := rfl
  have k293 : kd 293 = 19 := rfl
  unfold oI at hw
  have k292 : kd 292 = 18 := rfl
  have k293 : kd 293 = 19 := rfl
  rw [NModel_addStock]
  simp (disch := first | assumption | (show (_ : Nat) < _; omega) | (show (_ : Nat) ≠ _; omega) | (show (_ : Nat) ≤ _; omega) | exact Or.inl rfl | exact Or.inr rfl) only [hG0, hG1, hG2, hF0, hF1, hA0, hA1, xL, xC, icL, Option.bind_some, Nat.le_add_right, Nat.le_refl, if_true, if_false, and_self, true_and, and_true, or_false, false_or, or_true, true_or, and_false, false_and, not_true_eq_false, not_false_eq_true, Nat.reduceAdd, Nat.reduceLeDiff, Nat.reduceLT, Option.toList_some, Option.toList_none, List.cons_append, List.nil_append, callK_ret, callR_ret, callK_thr, decide_true, Bool.true_and, xNr, bI0, bIT, bIF, ne_eq, Classical.not_not, not_false_eq_true, false_or, List.length_nil, icM, ic_lt, ic_eq, le_nl, ↓reduceIte, Nat.lt_irrefl, ri_ws, ri_wn, ri_as, ri_an, upd_s, upd_n, rp_wi, rp_wa, rl_wi, rl_wa, rl_wp, rl_wpa, rl_wl, rp_wl, ri_wl, rp_wd, ri_wd, in_rng, Int32.lt_irrefl, Nat.not_lt_zero, pk_nc, Nat.reduceEqDiff, Nat.succ_ne_self, Nat.one_ne_zero, Nat.add_left_cancel_iff, ri_wpa, ri_wp, QModel_addStock_0, m_begin, hw, hq, m_fail, ic_add]
theorem m_addStockOk {k c r : Int32} {dp : Nat} (hw : ∀ d N z, Mt (n0, S0) (d + 3) 152 [.ref (n0 + 292), .int k, .int c] (hp n0 G (bgM m), N, z) = oI n0 G (bgM m) N z (ic 0)) (hop : ∀ d N z, Mt (n0, S0) (d + 3) 153 [.ref (n0 + 292), .int k, .int c] (hp n0 G (bgM m), N, z) = oI n0 G m2 N z r) (hd : ri m2 292 7 = ic dp) (h8 : dp ≤ 8) : Mt (n0, S0) (d + 5) 151 [.ref (n0 + 292), .int k, .int c] (hp n0 G m, N, z) = oI n0 G (cmM m2 dp) N z r := by
  have k292 : kd 292 = 18 := rfl
  have k293 : kd 293 = 19 := rfl
  unfold oI at hw hop
  have k292 : kd 292 = 18 := rfl
  have k293 : kd 293 = 19 := rfl
  rw [NModel_addStock]
  simp (disch := first | assumption | (show (_ : Nat) < _; omega) | (show (_ : Nat) ≠ _; omega) | (show (_ : Nat) ≤ _; omega) | exact Or.inl rfl | exact Or.inr rfl) only [hG0, hG1, hG2, hF0, hF1, hA0, hA1, xL, xC, icL, Option.bind_some, Nat.le_add_right, Nat.le_refl, if_true, if_false, and_self, true_and, and_true, or_false, false_or, or_true, true_or, and_false, false_and, not_true_eq_false, not_false_eq_true, Nat.reduceAdd, Nat.reduceLeDiff, Nat.reduceLT, Option.toList_some, Option.toList_none, List.cons_append, List.nil_append, callK_ret, callR_ret, callK_thr, decide_true, Bool.true_and, xNr, bI0, bIT, bIF, ne_eq, Classical.not_not, not_false_eq_true, false_or, List.length_nil, icM, ic_lt, ic_eq, le_nl, ↓reduceIte, Nat.lt_irrefl, ri_ws, ri_wn, ri_as, ri_an, upd_s, upd_n, rp_wi, rp_wa, rl_wi, rl_wa, rl_wp, rl_wpa, rl_wl, rp_wl, ri_wl, rp_wd, ri_wd, in_rng, Int32.lt_irrefl, Nat.not_lt_zero, pk_nc, Nat.reduceEqDiff, Nat.succ_ne_self, Nat.one_ne_zero, Nat.add_left_cancel_iff, ri_wpa, ri_wp, QModel_addStock_0, m_begin, hw, hop, m_commit hd h8, ic_add]
theorem m_loadNo {w k c why : Int32} (hw : ∀ d N z, Mt (n0, S0) (d + 3) 155 [.ref (n0 + 292), .int w, .int k, .int c] (hp n0 G (bgM m), N, z) = oI n0 G (bgM m) N z why) (hq : ic 0 < why) : Mt (n0, S0) (d + 5) 154 [.ref (n0 + 292), .int w, .int k, .int c] (hp n0 G m, N, z) = oI n0 G (wi (bgM m) 292 6 why) N z (ic 0) := by
  have k292 : kd 292 = 18 := rfl
  have k293 : kd 293 = 19 := rfl
  unfold oI at hw
  have k292 : kd 292 = 18 := rfl
  have k293 : kd 293 = 19 := rfl
  rw [NModel_load]
  simp (disch := first | assumption | (show (_ : Nat) < _; omega) | (show (_ : Nat) ≠ _; omega) | (show (_ : Nat) ≤ _; omega) | exact Or.inl rfl | exact Or.inr rfl) only [hG0, hG1, hG2, hF0, hF1, hA0, hA1, xL, xC, icL, Option.bind_some, Nat.le_add_right, Nat.le_refl, if_true, if_false, and_self, true_and, and_true, or_false, false_or, or_true, true_or, and_false, false_and, not_true_eq_false, not_false_eq_true, Nat.reduceAdd, Nat.reduceLeDiff, Nat.reduceLT, Option.toList_some, Option.toList_none, List.cons_append, List.nil_append, callK_ret, callR_ret, callK_thr, decide_true, Bool.true_and, xNr, bI0, bIT, bIF, ne_eq, Classical.not_not, not_false_eq_true, false_or, List.length_nil, icM, ic_lt, ic_eq, le_nl, ↓reduceIte, Nat.lt_irrefl, ri_ws, ri_wn, ri_as, ri_an, upd_s, upd_n, rp_wi, rp_wa, rl_wi, rl_wa, rl_wp, rl_wpa, rl_wl, rp_wl, ri_wl, rp_wd, ri_wd, in_rng, Int32.lt_irrefl, Nat.not_lt_zero, pk_nc, Nat.reduceEqDiff, Nat.succ_ne_self, Nat.one_ne_zero, Nat.add_left_cancel_iff, ri_wpa, ri_wp, QModel_load_0, m_begin, hw, hq, m_fail, ic_add]
theorem m_loadOk {w k c r : Int32} {dp : Nat} (hw : ∀ d N z, Mt (n0, S0) (d + 3) 155 [.ref (n0 + 292), .int w, .int k, .int c] (hp n0 G (bgM m), N, z) = oI n0 G (bgM m) N z (ic 0)) (hop : ∀ d N z, Mt (n0, S0) (d + 3) 159 [.ref (n0 + 292), .int w, .int k, .int c] (hp n0 G (bgM m), N, z) = oI n0 G m2 N z r) (hd : ri m2 292 7 = ic dp) (h8 : dp ≤ 8) : Mt (n0, S0) (d + 5) 154 [.ref (n0 + 292), .int w, .int k, .int c] (hp n0 G m, N, z) = oI n0 G (cmM m2 dp) N z r := by
  have k292 : kd 292 = 18 := rfl
  have k293 : kd 293 = 19 := rfl
  unfold oI at hw hop
  have k292 : kd 292 = 18 := rfl
  have k293 : kd 293 = 19 := rfl
  rw [NModel_load]
  simp (disch := first | assumption | (show (_ : Nat) < _; omega) | (show (_ : Nat) ≠ _; omega) | (show (_ : Nat) ≤ _; omega) | exact Or.inl rfl | exact Or.inr rfl) only [hG0, hG1, hG2, hF0, hF1, hA0, hA1, xL, xC, icL, Option.bind_some, Nat.le_add_right, Nat.le_refl, if_true, if_false, and_self, true_and, and_true, or_false, false_or, or_true, true_or, and_false, false_and, not_true_eq_false, not_false_eq_true, Nat.reduceAdd, Nat.reduceLeDiff, Nat.reduceLT, Option.toList_some, Option.toList_none, List.cons_append, List.nil_append, callK_ret, callR_ret, callK_thr, decide_true, Bool.true_and, xNr, bI0, bIT, bIF, ne_eq, Classical.not_not, not_false_eq_true, false_or, List.length_nil, icM, ic_lt, ic_eq, le_nl, ↓reduceIte, Nat.lt_irrefl, ri_ws, ri_wn, ri_as, ri_an, upd_s, upd_n, rp_wi, rp_wa, rl_wi, rl_wa, rl_wp, rl_wpa, rl_wl, rp_wl, ri_wl, rp_wd, ri_wd, in_rng, Int32.lt_irrefl, Nat.not_lt_zero, pk_nc, Nat.reduceEqDiff, Nat.succ_ne_self, Nat.one_ne_zero, Nat.add_left_cancel_iff, ri_wpa, ri_wp, QModel_load_0, m_begin, hw, hop, m_commit hd h8, ic_add]
theorem m_borrowNo {w t why : Int32} (hw : ∀ d N z, Mt (n0, S0) (d + 3) 162 [.ref (n0 + 292), .int w, .int t, .int (ic 0)] (hp n0 G (bgM m), N, z) = oI n0 G (bgM m) N z why) (hq : ic 0 < why) : Mt (n0, S0) (d + 5) 161 [.ref (n0 + 292), .int w, .int t] (hp n0 G m, N, z) = oI n0 G (wi (bgM m) 292 6 why) N z (ic 0) := by
  have k292 : kd 292 = 18 := rfl
  have k293 : kd 293 = 19 := rfl
  unfold oI at hw
  have k292 : kd 292 = 18 := rfl
  have k293 : kd 293 = 19 := rfl
  rw [NModel_borrow]
  simp (disch := first | assumption | (show (_ : Nat) < _; omega) | (show (_ : Nat) ≠ _; omega) | (show (_ : Nat) ≤ _; omega) | exact Or.inl rfl | exact Or.inr rfl) only [hG0, hG1, hG2, hF0, hF1, hA0, hA1, xL, xC, icL, Option.bind_some, Nat.le_add_right, Nat.le_refl, if_true, if_false, and_self, true_and, and_true, or_false, false_or, or_true, true_or, and_false, false_and, not_true_eq_false, not_false_eq_true, Nat.reduceAdd, Nat.reduceLeDiff, Nat.reduceLT, Option.toList_some, Option.toList_none, List.cons_append, List.nil_append, callK_ret, callR_ret, callK_thr, decide_true, Bool.true_and, xNr, bI0, bIT, bIF, ne_eq, Classical.not_not, not_false_eq_true, false_or, List.length_nil, icM, ic_lt, ic_eq, le_nl, ↓reduceIte, Nat.lt_irrefl, ri_ws, ri_wn, ri_as, ri_an, upd_s, upd_n, rp_wi, rp_wa, rl_wi, rl_wa, rl_wp, rl_wpa, rl_wl, rp_wl, ri_wl, rp_wd, ri_wd, in_rng, Int32.lt_irrefl, Nat.not_lt_zero, pk_nc, Nat.reduceEqDiff, Nat.succ_ne_self, Nat.one_ne_zero, Nat.add_left_cancel_iff, ri_wpa, ri_wp, QModel_borrow_0, m_begin, hw, hq, m_fail, ic_add]
theorem m_borrowOk {w t r : Int32} {dp : Nat} (hw : ∀ d N z, Mt (n0, S0) (d + 3) 162 [.ref (n0 + 292), .int w, .int t, .int (ic 0)] (hp n0 G (bgM m), N, z) = oI n0 G (bgM m) N z (ic 0)) (hop : ∀ d N z, Mt (n0, S0) (d + 3) 163 [.ref (n0 + 292), .int w, .int t, .int (w + ic 1)] (hp n0 G (bgM m), N, z) = oI n0 G m2 N z r) (hd : ri m2 292 7 = ic dp) (h8 : dp ≤ 8) : Mt (n0, S0) (d + 5) 161 [.ref (n0 + 292), .int w, .int t] (hp n0 G m, N, z) = oI n0 G (cmM m2 dp) N z r := by
  have k292 : kd 292 = 18 := rfl
  have k293 : kd 293 = 19 := rfl
  unfold oI at hw hop
  have k292 : kd 292 = 18 := rfl
  have k293 : kd 293 = 19 := rfl
  rw [NModel_borrow]
  simp (disch := first | assumption | (show (_ : Nat) < _; omega) | (show (_ : Nat) ≠ _; omega) | (show (_ : Nat) ≤ _; omega) | exact Or.inl rfl | exact Or.inr rfl) only [hG0, hG1, hG2, hF0, hF1, hA0, hA1, xL, xC, icL, Option.bind_some, Nat.le_add_right, Nat.le_refl, if_true, if_false, and_self, true_and, and_true, or_false, false_or, or_true, true_or, and_false, false_and, not_true_eq_false, not_false_eq_true, Nat.reduceAdd, Nat.reduceLeDiff, Nat.reduceLT, Option.toList_some, Option.toList_none, List.cons_append, List.nil_append, callK_ret, callR_ret, callK_thr, decide_true, Bool.true_and, xNr, bI0, bIT, bIF, ne_eq, Classical.not_not, not_false_eq_true, false_or, List.length_nil, icM, ic_lt, ic_eq, le_nl, ↓reduceIte, Nat.lt_irrefl, ri_ws, ri_wn, ri_as, ri_an, upd_s, upd_n, rp_wi, rp_wa, rl_wi, rl_wa, rl_wp, rl_wpa, rl_wl, rp_wl, ri_wl, rp_wd, ri_wd, in_rng, Int32.lt_irrefl, Nat.not_lt_zero, pk_nc, Nat.reduceEqDiff, Nat.succ_ne_self, Nat.one_ne_zero, Nat.add_left_cancel_iff, ri_wpa, ri_wp, QModel_borrow_0, m_begin, hw, hop, m_commit hd h8, ic_add]
theorem m_giveBackNo {w t why : Int32} (hw : ∀ d N z, Mt (n0, S0) (d + 3) 162 [.ref (n0 + 292), .int w, .int t, .int (w + ic 1)] (hp n0 G (bgM m), N, z) = oI n0 G (bgM m) N z why) (hq : ic 0 < why) : Mt (n0, S0) (d + 5) 165 [.ref (n0 + 292), .int w, .int t] (hp n0 G m, N, z) = oI n0 G (wi (bgM m) 292 6 why) N z (ic 0) := by
  have k292 : kd 292 = 18 := rfl
  have k293 : kd 293 = 19 := rfl
  unfold oI at hw
  have k292 : kd 292 = 18 := rfl
  have k293 : kd 293 = 19 := rfl
  rw [NModel_giveBack]
  simp (disch := first | assumption | (show (_ : Nat) < _; omega) | (show (_ : Nat) ≠ _; omega) | (show (_ : Nat) ≤ _; omega) | exact Or.inl rfl | exact Or.inr rfl) only [hG0, hG1, hG2, hF0, hF1, hA0, hA1, xL, xC, icL, Option.bind_some, Nat.le_add_right, Nat.le_refl, if_true, if_false, and_self, true_and, and_true, or_false, false_or, or_true, true_or, and_false, false_and, not_true_eq_false, not_false_eq_true, Nat.reduceAdd, Nat.reduceLeDiff, Nat.reduceLT, Option.toList_some, Option.toList_none, List.cons_append, List.nil_append, callK_ret, callR_ret, callK_thr, decide_true, Bool.true_and, xNr, bI0, bIT, bIF, ne_eq, Classical.not_not, not_false_eq_true, false_or, List.length_nil, icM, ic_lt, ic_eq, le_nl, ↓reduceIte, Nat.lt_irrefl, ri_ws, ri_wn, ri_as, ri_an, upd_s, upd_n, rp_wi, rp_wa, rl_wi, rl_wa, rl_wp, rl_wpa, rl_wl, rp_wl, ri_wl, rp_wd, ri_wd, in_rng, Int32.lt_irrefl, Nat.not_lt_zero, pk_nc, Nat.reduceEqDiff, Nat.succ_ne_self, Nat.one_ne_zero, Nat.add_left_cancel_iff, ri_wpa, ri_wp, QModel_giveBack_0, m_begin, hw, hq, m_fail, ic_add]
theorem m_giveBackOk {w t r : Int32} {dp : Nat} (hw : ∀ d N z, Mt (n0, S0) (d + 3) 162 [.ref (n0 + 292), .int w, .int t, .int (w + ic 1)] (hp n0 G (bgM m), N, z) = oI n0 G (bgM m) N z (ic 0)) (hop : ∀ d N z, Mt (n0, S0) (d + 3) 163 [.ref (n0 + 292), .int w, .int t, .int (ic 0)] (hp n0 G (bgM m), N, z) = oI n0 G m2 N z r) (hd : ri m2 292 7 = ic dp) (h8 : dp ≤ 8) : Mt (n0, S0) (d + 5) 165 [.ref (n0 + 292), .int w, .int t] (hp n0 G m, N, z) = oI n0 G (cmM m2 dp) N z r := by
  have k292 : kd 292 = 18 := rfl
  have k293 : kd 293 = 19 := rfl
  unfold oI at hw hop
  have k292 : kd 292 = 18 := rfl
  have k293 : kd 293 = 19 := rfl
  rw [NModel_giveBack]
  simp (disch := first | assumption | (show (_ : Nat) < _; omega) | (show (_ : Nat) ≠ _; omega) | (show (_ : Nat) ≤ _; omega) | exact Or.inl rfl | exact Or.inr rfl) only [hG0, hG1, hG2, hF0, hF1, hA0, hA1, xL, xC, icL, Option.bind_some, Nat.le_add_right, Nat.le_refl, if_true, if_false, and_self, true_and, and_true, or_false, false_or, or_true, true_or, and_false, false_and, not_true_eq_false, not_false_eq_true, Nat.reduceAdd, Nat.reduceLeDiff, Nat.reduceLT, Option.toList_some, Option.toList_none, List.cons_append, List.nil_append, callK_ret, callR_ret, callK_thr, decide_true, Bool.true_and, xNr, bI0, bIT, bIF, ne_eq, Classical.not_not, not_false_eq_true, false_or, List.length_nil, icM, ic_lt, ic_eq, le_nl, ↓reduceIte, Nat.lt_irrefl, ri_ws, ri_wn, ri_as, ri_an, upd_s, upd_n, rp_wi, rp_wa, rl_wi, rl_wa, rl_wp, rl_wpa, rl_wl, rp_wl, ri_wl, rp_wd, ri_wd, in_rng, Int32.lt_irrefl, Nat.not_lt_zero, pk_nc, Nat.reduceEqDiff, Nat.succ_ne_self, Nat.one_ne_zero, Nat.add_left_cancel_iff, ri_wpa, ri_wp, QModel_giveBack_0, m_begin, hw, hop, m_commit hd h8, ic_add]
theorem m_repairNo {w j why : Int32} (hw : ∀ d N z, Mt (n0, S0) (d + 3) 167 [.ref (n0 + 292), .int w, .int j] (hp n0 G (bgM m), N, z) = oI n0 G (bgM m) N z why) (hq : ic 0 < why) : Mt (n0, S0) (d + 5) 166 [.ref (n0 + 292), .int w, .int j] (hp n0 G m, N, z) = oI n0 G (wi (bgM m) 292 6 why) N z (ic 0) := by
  have k292 : kd 292 = 18 := rfl
  have k293 : kd 293 = 19 := rfl
  unfold oI at hw
  have k292 : kd 292 = 18 := rfl
  have k293 : kd 293 = 19 := rfl
  rw [NModel_repair]
  simp (disch := first | assumption | (show (_ : Nat) < _; omega) | (show (_ : Nat) ≠ _; omega) | (show (_ : Nat) ≤ _; omega) | exact Or.inl rfl | exact Or.inr rfl) only [hG0, hG1, hG2, hF0, hF1, hA0, hA1, xL, xC, icL, Option.bind_some, Nat.le_add_right, Nat.le_refl, if_true, if_false, and_self, true_and, and_true, or_false, false_or, or_true, true_or, and_false, false_and, not_true_eq_false, not_false_eq_true, Nat.reduceAdd, Nat.reduceLeDiff, Nat.reduceLT, Option.toList_some, Option.toList_none, List.cons_append, List.nil_append, callK_ret, callR_ret, callK_thr, decide_true, Bool.true_and, xNr, bI0, bIT, bIF, ne_eq, Classical.not_not, not_false_eq_true, false_or, List.length_nil, icM, ic_lt, ic_eq, le_nl, ↓reduceIte, Nat.lt_irrefl, ri_ws, ri_wn, ri_as, ri_an, upd_s, upd_n, rp_wi, rp_wa, rl_wi, rl_wa, rl_wp, rl_wpa, rl_wl, rp_wl, ri_wl, rp_wd, ri_wd, in_rng, Int32.lt_irrefl, Nat.not_lt_zero, pk_nc, Nat.reduceEqDiff, Nat.succ_ne_self, Nat.one_ne_zero, Nat.add_left_cancel_iff, ri_wpa, ri_wp, QModel_repair_0, m_begin, hw, hq, m_fail, ic_add]
theorem m_repairOk {w j r : Int32} {dp : Nat} (hw : ∀ d N z, Mt (n0, S0) (d + 3) 167 [.ref (n0 + 292), .int w, .int j] (hp n0 G (bgM m), N, z) = oI n0 G (bgM m) N z (ic 0)) (hop : ∀ d N z, Mt (n0, S0) (d + 4) 170 [.ref (n0 + 292), .int w, .int j] (hp n0 G (bgM m), N, z) = oI n0 G m2 N z r) (hd : ri m2 292 7 = ic dp) (h8 : dp ≤ 8) : Mt (n0, S0) (d + 5) 166 [.ref (n0 + 292), .int w, .int j] (hp n0 G m, N, z) = oI n0 G (cmM m2 dp) N z r := by
  have k292 : kd 292 = 18 := rfl
  have k293 : kd 293 = 19 := rfl
  unfold oI at hw hop
  have k292 : kd 292 = 18 := rfl
  have k293 : kd 293 = 19 := rfl
  rw [NModel_repair]
  simp (disch := first | assumption | (show (_ : Nat) < _; omega) | (show (_ : Nat) ≠ _; omega) | (show (_ : Nat) ≤ _; omega) | exact Or.inl rfl | exact Or.inr rfl) only [hG0, hG1, hG2, hF0, hF1, hA0, hA1, xL, xC, icL, Option.bind_some, Nat.le_add_right, Nat.le_refl, if_true, if_false, and_self, true_and, and_true, or_false, false_or, or_true, true_or, and_false, false_and, not_true_eq_false, not_false_eq_true, Nat.reduceAdd, Nat.reduceLeDiff, Nat.reduceLT, Option.toList_some, Option.toList_none, List.cons_append, List.nil_append, callK_ret, callR_ret, callK_thr, decide_true, Bool.true_and, xNr, bI0, bIT, bIF, ne_eq, Classical.not_not, not_false_eq_true, false_or, List.length_nil, icM, ic_lt, ic_eq, le_nl, ↓reduceIte, Nat.lt_irrefl, ri_ws, ri_wn, ri_as, ri_an, upd_s, upd_n, rp_wi, rp_wa, rl_wi, rl_wa, rl_wp, rl_wpa, rl_wl, rp_wl, ri_wl, rp_wd, ri_wd, in_rng, Int32.lt_irrefl, Nat.not_lt_zero, pk_nc, Nat.reduceEqDiff, Nat.succ_ne_self, Nat.one_ne_zero, Nat.add_left_cancel_iff, ri_wpa, ri_wp, QModel_repair_0, m_begin, hw, hop, m_commit hd h8, ic_add]
theorem m_restNo {w u why : Int32} (hw : ∀ d N z, Mt (n0, S0) (d + 3) 177 [.int w, .int u] (hp n0 G (bgM m), N, z) = oI n0 G (bgM m) N z why) (hq : ic 0 < why) : Mt (n0, S0) (d + 5) 176 [.ref (n0 + 292), .int w, .int u] (hp n0 G m, N, z) = oI n0 G (wi (bgM m) 292 6 why) N z (ic 0) := by
  have k292 : kd 292 = 18 := rfl
  have k293 : kd 293 = 19 := rfl
  unfold oI at hw
  have k292 : kd 292 = 18 := rfl
  have k293 : kd 293 = 19 := rfl
  rw [NModel_rest]
  simp (disch := first | assumption | (show (_ : Nat) < _; omega) | (show (_ : Nat) ≠ _; omega) | (show (_ : Nat) ≤ _; omega) | exact Or.inl rfl | exact Or.inr rfl) only [hG0, hG1, hG2, hF0, hF1, hA0, hA1, xL, xC, icL, Option.bind_some, Nat.le_add_right, Nat.le_refl, if_true, if_false, and_self, true_and, and_true, or_false, false_or, or_true, true_or, and_false, false_and, not_true_eq_false, not_false_eq_true, Nat.reduceAdd, Nat.reduceLeDiff, Nat.reduceLT, Option.toList_some, Option.toList_none, List.cons_append, List.nil_append, callK_ret, callR_ret, callK_thr, decide_true, Bool.true_and, xNr, bI0, bIT, bIF, ne_eq, Classical.not_not, not_false_eq_true, false_or, List.length_nil, icM, ic_lt, ic_eq, le_nl, ↓reduceIte, Nat.lt_irrefl, ri_ws, ri_wn, ri_as, ri_an, upd_s, upd_n, rp_wi, rp_wa, rl_wi, rl_wa, rl_wp, rl_wpa, rl_wl, rp_wl, ri_wl, rp_wd, ri_wd, in_rng, Int32.lt_irrefl, Nat.not_lt_zero, pk_nc, Nat.reduceEqDiff, Nat.succ_ne_self, Nat.one_ne_zero, Nat.add_left_cancel_iff, ri_wpa, ri_wp, QModel_rest_0, m_begin, hw, hq, m_fail, ic_add]
theorem m_restOk {w u r : Int32} {dp : Nat} (hw : ∀ d N z, Mt (n0, S0) (d + 3) 177 [.int w, .int u] (hp n0 G (bgM m), N, z) = oI n0 G (bgM m) N z (ic 0)) (hop : ∀ d N z, Mt (n0, S0) (d + 2) 178 [.ref (n0 + 292), .int w, .int u] (hp n0 G (bgM m), N, z) = oI n0 G m2 N z r) (hd : ri m2 292 7 = ic dp) (h8 : dp ≤ 8) : Mt (n0, S0) (d + 5) 176 [.ref (n0 + 292), .int w, .int u] (hp n0 G m, N, z) = oI n0 G (cmM m2 dp) N z r := by
  have k292 : kd 292 = 18 := rfl
  have k293 : kd 293 = 19 := rfl
  unfold oI at hw hop
  have k292 : kd 292 = 18 := rfl
  have k293 : kd 293 = 19 := rfl
  rw [NModel_rest]
  simp (disch := first | assumption | (show (_ : Nat) < _; omega) | (show (_ : Nat) ≠ _; omega) | (show (_ : Nat) ≤ _; omega) | exact Or.inl rfl | exact Or.inr rfl) only [hG0, hG1, hG2, hF0, hF1, hA0, hA1, xL, xC, icL, Option.bind_some, Nat.le_add_right, Nat.le_refl, if_true, if_false, and_self, true_and, and_true, or_false, false_or, or_true, true_or, and_false, false_and, not_true_eq_false, not_false_eq_true, Nat.reduceAdd, Nat.reduceLeDiff, Nat.reduceLT, Option.toList_some, Option.toList_none, List.cons_append, List.nil_append, callK_ret, callR_ret, callK_thr, decide_true, Bool.true_and, xNr, bI0, bIT, bIF, ne_eq, Classical.not_not, not_false_eq_true, false_or, List.length_nil, icM, ic_lt, ic_eq, le_nl, ↓reduceIte, Nat.lt_irrefl, ri_ws, ri_wn, ri_as, ri_an, upd_s, upd_n, rp_wi, rp_wa, rl_wi, rl_wa, rl_wp, rl_wpa, rl_wl, rp_wl, ri_wl, rp_wd, ri_wd, in_rng, Int32.lt_irrefl, Nat.not_lt_zero, pk_nc, Nat.reduceEqDiff, Nat.succ_ne_self, Nat.one_ne_zero, Nat.add_left_cancel_iff, ri_wpa, ri_wp, QModel_rest_0, m_begin, hw, hop, m_commit hd h8, ic_add]
theorem bg_f : ri (bgM m) 293 = ri m 293 := by
  unfold bgM
  rw [ri_an _ _ (by decide), ri_wn _ _ _ (by decide)]
theorem m_cancelNo {n : Nat} (hn : ri m 293 0 = ic n) (h12 : n ≤ 12) {j : Int32} (h : fdF (ri m 293) n j = none) : Mt (n0, S0) (d + 5) 139 [.ref (n0 + 292), .int j] (hp n0 G m, N, z) = oI n0 G (wi (bgM m) 292 6 (ic 1)) N z (ic 0) := by
  have k292 : kd 292 = 18 := rfl
  have k293 : kd 293 = 19 := rfl
  have hn' : ri (bgM m) 293 0 = ic n := by rw [bg_f]; exact hn
  have hf := fun (d N z : Nat) => m_find (n0 := n0) (S0 := S0) (G := G) (m := bgM m) (d := d) (N := N) (z := z) hn' h12 (job := j)
  rw [bg_f, h] at hf
  rw [NModel_cancelJob]
  simp (disch := first | assumption | (show (_ : Nat) < _; omega) | (show (_ : Nat) ≠ _; omega) | (show (_ : Nat) ≤ _; omega) | exact Or.inl rfl | exact Or.inr rfl) only [hG0, hG1, hG2, hF0, hF1, hA0, hA1, xL, xC, icL, Option.bind_some, Nat.le_add_right, Nat.le_refl, if_true, if_false, and_self, true_and, and_true, or_false, false_or, or_true, true_or, and_false, false_and, not_true_eq_false, not_false_eq_true, Nat.reduceAdd, Nat.reduceLeDiff, Nat.reduceLT, Option.toList_some, Option.toList_none, List.cons_append, List.nil_append, callK_ret, callR_ret, callK_thr, decide_true, Bool.true_and, xNr, bI0, bIT, bIF, ne_eq, Classical.not_not, not_false_eq_true, false_or, List.length_nil, icM, ic_lt, ic_eq, le_nl, ↓reduceIte, Nat.lt_irrefl, ri_ws, ri_wn, ri_as, ri_an, upd_s, upd_n, rp_wi, rp_wa, rl_wi, rl_wa, rl_wp, rl_wpa, rl_wl, rp_wl, ri_wl, rp_wd, ri_wd, in_rng, Int32.lt_irrefl, Nat.not_lt_zero, pk_nc, Nat.reduceEqDiff, Nat.succ_ne_self, Nat.one_ne_zero, Nat.add_left_cancel_iff, ri_wpa, ri_wp, QModel_cancelJob_0, m_begin, hf, oN, m_fail]
theorem m_cancelOk {n a dp : Nat} (hn : ri m 293 0 = ic n) (h12 : n ≤ 12) {j : Int32} (h : fdF (ri m 293) n j = some a) (hd : ri m 292 7 = ic dp) (h8 : dp ≤ 8) : Mt (n0, S0) (d + 5) 139 [.ref (n0 + 292), .int j] (hp n0 G m, N, z) = oI n0 G (cmM (wa (bgM m) 293 (rmF (ri m 293) n a)) dp) N z (ic (n - 1)) := by
  have k292 : kd 292 = 18 := rfl
  have k293 : kd 293 = 19 := rfl
  have hn' : ri (bgM m) 293 0 = ic n := by rw [bg_f]; exact hn
  have ha : a < n := by have := fndA_lt _ _ _ h; omega
  have hf := fun (d N z : Nat) => m_find (n0 := n0) (S0 := S0) (G := G) (m := bgM m) (d := d) (N := N) (z := z) hn' h12 (job := j)
  rw [bg_f, h] at hf
  have hr := fun (d N z : Nat) => m_removes (n0 := n0) (S0 := S0) (G := G) (m := bgM m) (d := d) (N := N) (z := z) hn' h12 ha
  rw [bg_f] at hr
  have hd' : ri (wa (bgM m) 293 (rmF (ri m 293) n a)) 292 7 = ic dp := by
    rw [ri_an _ _ (by decide)]
    unfold bgM
    rw [ri_an _ _ (by decide), ri_ws, upd_n _ _ (by decide)]
    exact hd
  have hc := fun (d N z : Nat) => m_commit (n0 := n0) (S0 := S0) (G := G) (d := d) (N := N) (z := z) hd' h8 (r := ic (n - 1))
  rw [NModel_cancelJob]
  simp (disch := first | assumption | (show (_ : Nat) < _; omega) | (show (_ : Nat) ≠ _; omega) | (show (_ : Nat) ≤ _; omega) | exact Or.inl rfl | exact Or.inr rfl) only [hG0, hG1, hG2, hF0, hF1, hA0, hA1, xL, xC, icL, Option.bind_some, Nat.le_add_right, Nat.le_refl, if_true, if_false, and_self, true_and, and_true, or_false, false_or, or_true, true_or, and_false, false_and, not_true_eq_false, not_false_eq_true, Nat.reduceAdd, Nat.reduceLeDiff, Nat.reduceLT, Option.toList_some, Option.toList_none, List.cons_append, List.nil_append, callK_ret, callR_ret, callK_thr, decide_true, Bool.true_and, xNr, bI0, bIT, bIF, ne_eq, Classical.not_not, not_false_eq_true, false_or, List.length_nil, icM, ic_lt, ic_eq, le_nl, ↓reduceIte, Nat.lt_irrefl, ri_ws, ri_wn, ri_as, ri_an, upd_s, upd_n, rp_wi, rp_wa, rl_wi, rl_wa, rl_wp, rl_wpa, rl_wl, rp_wl, ri_wl, rp_wd, ri_wd, in_rng, Int32.lt_irrefl, Nat.not_lt_zero, pk_nc, Nat.reduceEqDiff, Nat.succ_ne_self, Nat.one_ne_zero, Nat.add_left_cancel_iff, ri_wpa, ri_wp, QModel_cancelJob_0, m_begin, hf, oN, hr, hc]
theorem m_homeNo {w : Int32} (hw : ¬ (¬ w < ic 0 ∧ w < ic 3)) : Mt (n0, S0) (d + 5) 174 [.ref (n0 + 292), .int w] (hp n0 G m, N, z) = oI n0 G (wi (bgM m) 292 6 (ic 1)) N z (ic 0) := by
  have k292 : kd 292 = 18 := rfl
  have k293 : kd 293 = 19 := rfl
  rw [NModel_goHome]
  simp (disch := first | assumption | (show (_ : Nat) < _; omega) | (show (_ : Nat) ≠ _; omega) | (show (_ : Nat) ≤ _; omega) | exact Or.inl rfl | exact Or.inr rfl) only [hG0, hG1, hG2, hF0, hF1, hA0, hA1, xL, xC, icL, Option.bind_some, Nat.le_add_right, Nat.le_refl, if_true, if_false, and_self, true_and, and_true, or_false, false_or, or_true, true_or, and_false, false_and, not_true_eq_false, not_false_eq_true, Nat.reduceAdd, Nat.reduceLeDiff, Nat.reduceLT, Option.toList_some, Option.toList_none, List.cons_append, List.nil_append, callK_ret, callR_ret, callK_thr, decide_true, Bool.true_and, xNr, bI0, bIT, bIF, ne_eq, Classical.not_not, not_false_eq_true, false_or, List.length_nil, icM, ic_lt, ic_eq, le_nl, ↓reduceIte, Nat.lt_irrefl, ri_ws, ri_wn, ri_as, ri_an, upd_s, upd_n, rp_wi, rp_wa, rl_wi, rl_wa, rl_wp, rl_wpa, rl_wl, rp_wl, ri_wl, rp_wd, ri_wd, in_rng, Int32.lt_irrefl, Nat.not_lt_zero, pk_nc, Nat.reduceEqDiff, Nat.succ_ne_self, Nat.one_ne_zero, Nat.add_left_cancel_iff, ri_wpa, ri_wp, QModel_goHome_0, m_begin, m_isBarrow, hw, m_fail]
theorem m_homeOk {w dp : Nat} (hw : w < 3) (hd : ri m 292 7 = ic dp) (h8 : dp ≤ 8) : Mt (n0, S0) (d + 5) 174 [.ref (n0 + 292), .int (ic w)] (hp n0 G m, N, z) = oI n0 G (cmM (wa (bgM m) 293 (drvF (ri m 293) w)) dp) N z (ri m 293 (18 + 8 * w + 2) + ri m 293 (18 + 8 * w) + ri m 293 (18 + 8 * w + 1)) := by
  have k292 : kd 292 = 18 := rfl
  have k293 : kd 293 = 19 := rfl
  have hdr := fun (d N z : Nat) => m_drivesHome (n0 := n0) (S0 := S0) (G := G) (m := bgM m) (d := d) (N := N) (z := z) hw
  rw [bg_f] at hdr
  have hd' : ri (wa (bgM m) 293 (drvF (ri m 293) w)) 292 7 = ic dp := by
    rw [ri_an _ _ (by decide)]
    unfold bgM
    rw [ri_an _ _ (by decide), ri_ws, upd_n _ _ (by decide)]
    exact hd
  have hc := fun (r : Int32) (d N z : Nat) => m_commit (n0 := n0) (S0 := S0) (G := G) (d := d) (N := N) (z := z) hd' h8 (r := r)
  rw [NModel_goHome]
  simp (disch := first | assumption | (show (_ : Nat) < _; omega) | (show (_ : Nat) ≠ _; omega) | (show (_ : Nat) ≤ _; omega) | exact Or.inl rfl | exact Or.inr rfl) only [hG0, hG1, hG2, hF0, hF1, hA0, hA1, xL, xC, icL, Option.bind_some, Nat.le_add_right, Nat.le_refl, if_true, if_false, and_self, true_and, and_true, or_false, false_or, or_true, true_or, and_false, false_and, not_true_eq_false, not_false_eq_true, Nat.reduceAdd, Nat.reduceLeDiff, Nat.reduceLT, Option.toList_some, Option.toList_none, List.cons_append, List.nil_append, callK_ret, callR_ret, callK_thr, decide_true, Bool.true_and, xNr, bI0, bIT, bIF, ne_eq, Classical.not_not, not_false_eq_true, false_or, List.length_nil, icM, ic_lt, ic_eq, le_nl, ↓reduceIte, Nat.lt_irrefl, ri_ws, ri_wn, ri_as, ri_an, upd_s, upd_n, rp_wi, rp_wa, rl_wi, rl_wa, rl_wp, rl_wpa, rl_wl, rp_wl, ri_wl, rp_wd, ri_wd, in_rng, Int32.lt_irrefl, Nat.not_lt_zero, pk_nc, Nat.reduceEqDiff, Nat.succ_ne_self, Nat.one_ne_zero, Nat.add_left_cancel_iff, ri_wpa, ri_wp, QModel_goHome_0, m_begin, m_isBarrow, hw, hdr, hc]
end M5
