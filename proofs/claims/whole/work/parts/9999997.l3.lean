/-! the cases of the law's switch; written by wip/whole/gen_l2.py, expanded by px.py out of l3.src -/
section L2b
variable {n0 N z N0 z0 q s p len : Nat} {S0 : Nat → Value} {G : sH} {m : mm} {sc : Nat → Int32} {l6 l7 l8 l9 : Option Value}
theorem L_jobs (hI : Inv n0 N0 z0 q G m N z) (hq : q ≤ 512) (hS : Sta n0 S0 G) (hs : Scr n0 s len sc G) (h7 : 7 * p + 7 ≤ len) : Lc n0 S0 N0 z0 q s p 1044 l6 l7 l8 l9 G m N z := by
  have k303 : kd 303 = 25 := rfl
  have k304 : kd 304 = 26 := rfl
  have k292 : kd 292 = 18 := rfl
  have hs0 := hs G m (fun _ _ => rfl)
  obtain ⟨m1, m2, h1, h2, h5⟩ := Q_jobs (n0 := n0) (S0 := S0) hI
  have hs1 := hs G m1 (fun _ _ => rfl)
  refine ⟨G, m2, N, z, l6, l7, l8, l9, ?_, fun _ _ => rfl, h5⟩
  simp (disch := first | assumption | (show (_ : Nat) < _; omega) | (show (_ : Nat) ≠ _; omega) | (show (_ : Nat) ≤ _; omega) | exact Or.inl rfl | exact Or.inr rfl) only [hG0, hG1, hG2, hF0, hF1, hA0, hA1, xL, xC, icL, Option.bind_some, Nat.le_add_right, Nat.le_refl, if_true, if_false, and_self, true_and, and_true, or_false, false_or, or_true, true_or, and_false, false_and, not_true_eq_false, not_false_eq_true, Nat.reduceAdd, Nat.reduceLeDiff, Nat.reduceLT, Option.toList_some, Option.toList_none, List.cons_append, List.nil_append, callK_ret, callR_ret, callK_thr, decide_true, Bool.true_and, xNr, bI0, bIT, bIF, ne_eq, Classical.not_not, not_false_eq_true, false_or, List.length_nil, icM, ic_lt, ic_eq, le_nl, ↓reduceIte, Nat.lt_irrefl, ri_ws, ri_wn, ri_as, ri_an, upd_s, upd_n, rp_wi, rp_wa, rl_wi, rl_wa, rl_wp, rl_wpa, rl_wl, rp_wl, ri_wl, rp_wd, ri_wd, in_rng, Int32.lt_irrefl, Nat.not_lt_zero, pk_nc, Nat.reduceEqDiff, Nat.succ_ne_self, Nat.one_ne_zero, Nat.add_left_cancel_iff, ri_wpa, ri_wp, QLaw_law_25, hs0, hs1, h1, h2, lgs, ic_add]
theorem L_isOpen (hI : Inv n0 N0 z0 q G m N z) (hq : q ≤ 512) (hS : Sta n0 S0 G) (hs : Scr n0 s len sc G) (h7 : 7 * p + 7 ≤ len) : Lc n0 S0 N0 z0 q s p 1057 l6 l7 l8 l9 G m N z := by
  have k303 : kd 303 = 25 := rfl
  have k304 : kd 304 = 26 := rfl
  have k292 : kd 292 = 18 := rfl
  have hs0 := hs G m (fun _ _ => rfl)
  obtain ⟨m1, m2, h1, h2, h5⟩ := Q_isOpen (n0 := n0) (S0 := S0) (job := (sc (7 * p + 1))) hI
  have hs1 := hs G m1 (fun _ _ => rfl)
  refine ⟨G, m2, N, z, l6, l7, l8, l9, ?_, fun _ _ => rfl, h5⟩
  simp (disch := first | assumption | (show (_ : Nat) < _; omega) | (show (_ : Nat) ≠ _; omega) | (show (_ : Nat) ≤ _; omega) | exact Or.inl rfl | exact Or.inr rfl) only [hG0, hG1, hG2, hF0, hF1, hA0, hA1, xL, xC, icL, Option.bind_some, Nat.le_add_right, Nat.le_refl, if_true, if_false, and_self, true_and, and_true, or_false, false_or, or_true, true_or, and_false, false_and, not_true_eq_false, not_false_eq_true, Nat.reduceAdd, Nat.reduceLeDiff, Nat.reduceLT, Option.toList_some, Option.toList_none, List.cons_append, List.nil_append, callK_ret, callR_ret, callK_thr, decide_true, Bool.true_and, xNr, bI0, bIT, bIF, ne_eq, Classical.not_not, not_false_eq_true, false_or, List.length_nil, icM, ic_lt, ic_eq, le_nl, ↓reduceIte, Nat.lt_irrefl, ri_ws, ri_wn, ri_as, ri_an, upd_s, upd_n, rp_wi, rp_wa, rl_wi, rl_wa, rl_wp, rl_wpa, rl_wl, rp_wl, ri_wl, rp_wd, ri_wd, in_rng, Int32.lt_irrefl, Nat.not_lt_zero, pk_nc, Nat.reduceEqDiff, Nat.succ_ne_self, Nat.one_ne_zero, Nat.add_left_cancel_iff, ri_wpa, ri_wp, QLaw_law_25, QLaw_law_26, hs0, hs1, h1, h2, lgs, ic_add]
theorem L_kind (hI : Inv n0 N0 z0 q G m N z) (hq : q ≤ 512) (hS : Sta n0 S0 G) (hs : Scr n0 s len sc G) (h7 : 7 * p + 7 ≤ len) : Lc n0 S0 N0 z0 q s p 1082 l6 l7 l8 l9 G m N z := by
  have k303 : kd 303 = 25 := rfl
  have k304 : kd 304 = 26 := rfl
  have k292 : kd 292 = 18 := rfl
  have hs0 := hs G m (fun _ _ => rfl)
  obtain ⟨k, G1, m1, N1, z1, v, m2, hk, h1, hG, h2, h3, h4, h5⟩ := W_kind (P_kind (S0 := S0) (job := (sc (7 * p + 1))) hI hq)
  have hs1 := hs G1 m1 hG
  have hth : Mt (n0, S0) 41 128 [.ref (n0 + 292)] (hp n0 G1 m2, N1, z1) = _ := m_thrown (n0 := n0) (S0 := S0) (G := G1) (N := N1) (z := z1) (m := m2) (d := 40)
  rw [h3] at hth
  by_cases hk0 : k = 0
  · subst hk0
    have h4 := h4 rfl
    refine ⟨G1, m2, N1, z1, some (.int (ic 0)), some (.int v), l8, l9, ?_, hG, h5⟩
    simp (disch := first | assumption | (show (_ : Nat) < _; omega) | (show (_ : Nat) ≠ _; omega) | (show (_ : Nat) ≤ _; omega) | exact Or.inl rfl | exact Or.inr rfl) only [hG0, hG1, hG2, hF0, hF1, hA0, hA1, xL, xC, icL, Option.bind_some, Nat.le_add_right, Nat.le_refl, if_true, if_false, and_self, true_and, and_true, or_false, false_or, or_true, true_or, and_false, false_and, not_true_eq_false, not_false_eq_true, Nat.reduceAdd, Nat.reduceLeDiff, Nat.reduceLT, Option.toList_some, Option.toList_none, List.cons_append, List.nil_append, callK_ret, callR_ret, callK_thr, decide_true, Bool.true_and, xNr, bI0, bIT, bIF, ne_eq, Classical.not_not, not_false_eq_true, false_or, List.length_nil, icM, ic_lt, ic_eq, le_nl, ↓reduceIte, Nat.lt_irrefl, ri_ws, ri_wn, ri_as, ri_an, upd_s, upd_n, rp_wi, rp_wa, rl_wi, rl_wa, rl_wp, rl_wpa, rl_wl, rp_wl, ri_wl, rp_wd, ri_wd, in_rng, Int32.lt_irrefl, Nat.not_lt_zero, pk_nc, Nat.reduceEqDiff, Nat.succ_ne_self, Nat.one_ne_zero, Nat.add_left_cancel_iff, ri_wpa, ri_wp, QLaw_law_26, QLaw_law_27, hs0, hs1, h1, h2, hth, h4, lgs, ic_add]
  · have hkn : ¬ ic k = ic 0 := fun y => hk0 (by rw [ic_eq (by omega) (by omega)] at y; exact y)
    refine ⟨G1, m2, N1, z1, some (.int (ic k)), some (.int v), l8, l9, ?_, hG, h5⟩
    simp (disch := first | assumption | (show (_ : Nat) < _; omega) | (show (_ : Nat) ≠ _; omega) | (show (_ : Nat) ≤ _; omega) | exact Or.inl rfl | exact Or.inr rfl) only [hG0, hG1, hG2, hF0, hF1, hA0, hA1, xL, xC, icL, Option.bind_some, Nat.le_add_right, Nat.le_refl, if_true, if_false, and_self, true_and, and_true, or_false, false_or, or_true, true_or, and_false, false_and, not_true_eq_false, not_false_eq_true, Nat.reduceAdd, Nat.reduceLeDiff, Nat.reduceLT, Option.toList_some, Option.toList_none, List.cons_append, List.nil_append, callK_ret, callR_ret, callK_thr, decide_true, Bool.true_and, xNr, bI0, bIT, bIF, ne_eq, Classical.not_not, not_false_eq_true, false_or, List.length_nil, icM, ic_lt, ic_eq, le_nl, ↓reduceIte, Nat.lt_irrefl, ri_ws, ri_wn, ri_as, ri_an, upd_s, upd_n, rp_wi, rp_wa, rl_wi, rl_wa, rl_wp, rl_wpa, rl_wl, rp_wl, ri_wl, rp_wd, ri_wd, in_rng, Int32.lt_irrefl, Nat.not_lt_zero, pk_nc, Nat.reduceEqDiff, Nat.succ_ne_self, Nat.one_ne_zero, Nat.add_left_cancel_iff, ri_wpa, ri_wp, QLaw_law_26, QLaw_law_27, hs0, hs1, h1, h2, hth, hkn, lgs, ic_add]
theorem L_tool (hI : Inv n0 N0 z0 q G m N z) (hq : q ≤ 512) (hS : Sta n0 S0 G) (hs : Scr n0 s len sc G) (h7 : 7 * p + 7 ≤ len) : Lc n0 S0 N0 z0 q s p 1138 l6 l7 l8 l9 G m N z := by
  have k303 : kd 303 = 25 := rfl
  have k304 : kd 304 = 26 := rfl
  have k292 : kd 292 = 18 := rfl
  have hs0 := hs G m (fun _ _ => rfl)
  obtain ⟨k, G1, m1, N1, z1, v, m2, hk, h1, hG, h2, h3, h4, h5⟩ := W_tool (P_tool (S0 := S0) (job := (sc (7 * p + 1))) hI hq)
  have hs1 := hs G1 m1 hG
  have hth : Mt (n0, S0) 41 128 [.ref (n0 + 292)] (hp n0 G1 m2, N1, z1) = _ := m_thrown (n0 := n0) (S0 := S0) (G := G1) (N := N1) (z := z1) (m := m2) (d := 40)
  rw [h3] at hth
  by_cases hk0 : k = 0
  · subst hk0
    have h4 := h4 rfl
    refine ⟨G1, m2, N1, z1, some (.int (ic 0)), some (.int v), l8, l9, ?_, hG, h5⟩
    simp (disch := first | assumption | (show (_ : Nat) < _; omega) | (show (_ : Nat) ≠ _; omega) | (show (_ : Nat) ≤ _; omega) | exact Or.inl rfl | exact Or.inr rfl) only [hG0, hG1, hG2, hF0, hF1, hA0, hA1, xL, xC, icL, Option.bind_some, Nat.le_add_right, Nat.le_refl, if_true, if_false, and_self, true_and, and_true, or_false, false_or, or_true, true_or, and_false, false_and, not_true_eq_false, not_false_eq_true, Nat.reduceAdd, Nat.reduceLeDiff, Nat.reduceLT, Option.toList_some, Option.toList_none, List.cons_append, List.nil_append, callK_ret, callR_ret, callK_thr, decide_true, Bool.true_and, xNr, bI0, bIT, bIF, ne_eq, Classical.not_not, not_false_eq_true, false_or, List.length_nil, icM, ic_lt, ic_eq, le_nl, ↓reduceIte, Nat.lt_irrefl, ri_ws, ri_wn, ri_as, ri_an, upd_s, upd_n, rp_wi, rp_wa, rl_wi, rl_wa, rl_wp, rl_wpa, rl_wl, rp_wl, ri_wl, rp_wd, ri_wd, in_rng, Int32.lt_irrefl, Nat.not_lt_zero, pk_nc, Nat.reduceEqDiff, Nat.succ_ne_self, Nat.one_ne_zero, Nat.add_left_cancel_iff, ri_wpa, ri_wp, QLaw_law_27, QLaw_law_28, QLaw_law_29, hs0, hs1, h1, h2, hth, h4, lgs, ic_add]
  · have hkn : ¬ ic k = ic 0 := fun y => hk0 (by rw [ic_eq (by omega) (by omega)] at y; exact y)
    refine ⟨G1, m2, N1, z1, some (.int (ic k)), some (.int v), l8, l9, ?_, hG, h5⟩
    simp (disch := first | assumption | (show (_ : Nat) < _; omega) | (show (_ : Nat) ≠ _; omega) | (show (_ : Nat) ≤ _; omega) | exact Or.inl rfl | exact Or.inr rfl) only [hG0, hG1, hG2, hF0, hF1, hA0, hA1, xL, xC, icL, Option.bind_some, Nat.le_add_right, Nat.le_refl, if_true, if_false, and_self, true_and, and_true, or_false, false_or, or_true, true_or, and_false, false_and, not_true_eq_false, not_false_eq_true, Nat.reduceAdd, Nat.reduceLeDiff, Nat.reduceLT, Option.toList_some, Option.toList_none, List.cons_append, List.nil_append, callK_ret, callR_ret, callK_thr, decide_true, Bool.true_and, xNr, bI0, bIT, bIF, ne_eq, Classical.not_not, not_false_eq_true, false_or, List.length_nil, icM, ic_lt, ic_eq, le_nl, ↓reduceIte, Nat.lt_irrefl, ri_ws, ri_wn, ri_as, ri_an, upd_s, upd_n, rp_wi, rp_wa, rl_wi, rl_wa, rl_wp, rl_wpa, rl_wl, rp_wl, ri_wl, rp_wd, ri_wd, in_rng, Int32.lt_irrefl, Nat.not_lt_zero, pk_nc, Nat.reduceEqDiff, Nat.succ_ne_self, Nat.one_ne_zero, Nat.add_left_cancel_iff, ri_wpa, ri_wp, QLaw_law_27, QLaw_law_28, QLaw_law_29, hs0, hs1, h1, h2, hth, hkn, lgs, ic_add]
theorem L_due (hI : Inv n0 N0 z0 q G m N z) (hq : q ≤ 512) (hS : Sta n0 S0 G) (hs : Scr n0 s len sc G) (h7 : 7 * p + 7 ≤ len) : Lc n0 S0 N0 z0 q s p 1194 l6 l7 l8 l9 G m N z := by
  have k303 : kd 303 = 25 := rfl
  have k304 : kd 304 = 26 := rfl
  have k292 : kd 292 = 18 := rfl
  have hs0 := hs G m (fun _ _ => rfl)
  obtain ⟨k, G1, m1, N1, z1, v, m2, hk, h1, hG, h2, h3, h4, h5⟩ := W_due (P_due (S0 := S0) (job := (sc (7 * p + 1))) hI hq)
  have hs1 := hs G1 m1 hG
  have hth : Mt (n0, S0) 41 128 [.ref (n0 + 292)] (hp n0 G1 m2, N1, z1) = _ := m_thrown (n0 := n0) (S0 := S0) (G := G1) (N := N1) (z := z1) (m := m2) (d := 40)
  rw [h3] at hth
  by_cases hk0 : k = 0
  · subst hk0
    have h4 := h4 rfl
    refine ⟨G1, m2, N1, z1, some (.int (ic 0)), some (.int v), l8, l9, ?_, hG, h5⟩
    simp (disch := first | assumption | (show (_ : Nat) < _; omega) | (show (_ : Nat) ≠ _; omega) | (show (_ : Nat) ≤ _; omega) | exact Or.inl rfl | exact Or.inr rfl) only [hG0, hG1, hG2, hF0, hF1, hA0, hA1, xL, xC, icL, Option.bind_some, Nat.le_add_right, Nat.le_refl, if_true, if_false, and_self, true_and, and_true, or_false, false_or, or_true, true_or, and_false, false_and, not_true_eq_false, not_false_eq_true, Nat.reduceAdd, Nat.reduceLeDiff, Nat.reduceLT, Option.toList_some, Option.toList_none, List.cons_append, List.nil_append, callK_ret, callR_ret, callK_thr, decide_true, Bool.true_and, xNr, bI0, bIT, bIF, ne_eq, Classical.not_not, not_false_eq_true, false_or, List.length_nil, icM, ic_lt, ic_eq, le_nl, ↓reduceIte, Nat.lt_irrefl, ri_ws, ri_wn, ri_as, ri_an, upd_s, upd_n, rp_wi, rp_wa, rl_wi, rl_wa, rl_wp, rl_wpa, rl_wl, rp_wl, ri_wl, rp_wd, ri_wd, in_rng, Int32.lt_irrefl, Nat.not_lt_zero, pk_nc, Nat.reduceEqDiff, Nat.succ_ne_self, Nat.one_ne_zero, Nat.add_left_cancel_iff, ri_wpa, ri_wp, QLaw_law_29, QLaw_law_30, hs0, hs1, h1, h2, hth, h4, lgs, ic_add]
  · have hkn : ¬ ic k = ic 0 := fun y => hk0 (by rw [ic_eq (by omega) (by omega)] at y; exact y)
    refine ⟨G1, m2, N1, z1, some (.int (ic k)), some (.int v), l8, l9, ?_, hG, h5⟩
    simp (disch := first | assumption | (show (_ : Nat) < _; omega) | (show (_ : Nat) ≠ _; omega) | (show (_ : Nat) ≤ _; omega) | exact Or.inl rfl | exact Or.inr rfl) only [hG0, hG1, hG2, hF0, hF1, hA0, hA1, xL, xC, icL, Option.bind_some, Nat.le_add_right, Nat.le_refl, if_true, if_false, and_self, true_and, and_true, or_false, false_or, or_true, true_or, and_false, false_and, not_true_eq_false, not_false_eq_true, Nat.reduceAdd, Nat.reduceLeDiff, Nat.reduceLT, Option.toList_some, Option.toList_none, List.cons_append, List.nil_append, callK_ret, callR_ret, callK_thr, decide_true, Bool.true_and, xNr, bI0, bIT, bIF, ne_eq, Classical.not_not, not_false_eq_true, false_or, List.length_nil, icM, ic_lt, ic_eq, le_nl, ↓reduceIte, Nat.lt_irrefl, ri_ws, ri_wn, ri_as, ri_an, upd_s, upd_n, rp_wi, rp_wa, rl_wi, rl_wa, rl_wp, rl_wpa, rl_wl, rp_wl, ri_wl, rp_wd, ri_wd, in_rng, Int32.lt_irrefl, Nat.not_lt_zero, pk_nc, Nat.reduceEqDiff, Nat.succ_ne_self, Nat.one_ne_zero, Nat.add_left_cancel_iff, ri_wpa, ri_wp, QLaw_law_29, QLaw_law_30, hs0, hs1, h1, h2, hth, hkn, lgs, ic_add]
theorem L_barrowOf (hI : Inv n0 N0 z0 q G m N z) (hq : q ≤ 512) (hS : Sta n0 S0 G) (hs : Scr n0 s len sc G) (h7 : 7 * p + 7 ≤ len) : Lc n0 S0 N0 z0 q s p 1250 l6 l7 l8 l9 G m N z := by
  have k303 : kd 303 = 25 := rfl
  have k304 : kd 304 = 26 := rfl
  have k292 : kd 292 = 18 := rfl
  have hs0 := hs G m (fun _ _ => rfl)
  obtain ⟨k, G1, m1, N1, z1, v, m2, hk, h1, hG, h2, h3, h4, h5⟩ := W_barrowOf (P_barrowOf (S0 := S0) (job := (sc (7 * p + 1))) hI hq)
  have hs1 := hs G1 m1 hG
  have hth : Mt (n0, S0) 41 128 [.ref (n0 + 292)] (hp n0 G1 m2, N1, z1) = _ := m_thrown (n0 := n0) (S0 := S0) (G := G1) (N := N1) (z := z1) (m := m2) (d := 40)
  rw [h3] at hth
  by_cases hk0 : k = 0
  · subst hk0
    have h4 := h4 rfl
    refine ⟨G1, m2, N1, z1, some (.int (ic 0)), some (.int v), l8, l9, ?_, hG, h5⟩
    simp (disch := first | assumption | (show (_ : Nat) < _; omega) | (show (_ : Nat) ≠ _; omega) | (show (_ : Nat) ≤ _; omega) | exact Or.inl rfl | exact Or.inr rfl) only [hG0, hG1, hG2, hF0, hF1, hA0, hA1, xL, xC, icL, Option.bind_some, Nat.le_add_right, Nat.le_refl, if_true, if_false, and_self, true_and, and_true, or_false, false_or, or_true, true_or, and_false, false_and, not_true_eq_false, not_false_eq_true, Nat.reduceAdd, Nat.reduceLeDiff, Nat.reduceLT, Option.toList_some, Option.toList_none, List.cons_append, List.nil_append, callK_ret, callR_ret, callK_thr, decide_true, Bool.true_and, xNr, bI0, bIT, bIF, ne_eq, Classical.not_not, not_false_eq_true, false_or, List.length_nil, icM, ic_lt, ic_eq, le_nl, ↓reduceIte, Nat.lt_irrefl, ri_ws, ri_wn, ri_as, ri_an, upd_s, upd_n, rp_wi, rp_wa, rl_wi, rl_wa, rl_wp, rl_wpa, rl_wl, rp_wl, ri_wl, rp_wd, ri_wd, in_rng, Int32.lt_irrefl, Nat.not_lt_zero, pk_nc, Nat.reduceEqDiff, Nat.succ_ne_self, Nat.one_ne_zero, Nat.add_left_cancel_iff, ri_wpa, ri_wp, QLaw_law_30, QLaw_law_31, QLaw_law_32, hs0, hs1, h1, h2, hth, h4, lgs, ic_add]
  · have hkn : ¬ ic k = ic 0 := fun y => hk0 (by rw [ic_eq (by omega) (by omega)] at y; exact y)
    refine ⟨G1, m2, N1, z1, some (.int (ic k)), some (.int v), l8, l9, ?_, hG, h5⟩
    simp (disch := first | assumption | (show (_ : Nat) < _; omega) | (show (_ : Nat) ≠ _; omega) | (show (_ : Nat) ≤ _; omega) | exact Or.inl rfl | exact Or.inr rfl) only [hG0, hG1, hG2, hF0, hF1, hA0, hA1, xL, xC, icL, Option.bind_some, Nat.le_add_right, Nat.le_refl, if_true, if_false, and_self, true_and, and_true, or_false, false_or, or_true, true_or, and_false, false_and, not_true_eq_false, not_false_eq_true, Nat.reduceAdd, Nat.reduceLeDiff, Nat.reduceLT, Option.toList_some, Option.toList_none, List.cons_append, List.nil_append, callK_ret, callR_ret, callK_thr, decide_true, Bool.true_and, xNr, bI0, bIT, bIF, ne_eq, Classical.not_not, not_false_eq_true, false_or, List.length_nil, icM, ic_lt, ic_eq, le_nl, ↓reduceIte, Nat.lt_irrefl, ri_ws, ri_wn, ri_as, ri_an, upd_s, upd_n, rp_wi, rp_wa, rl_wi, rl_wa, rl_wp, rl_wpa, rl_wl, rp_wl, ri_wl, rp_wd, ri_wd, in_rng, Int32.lt_irrefl, Nat.not_lt_zero, pk_nc, Nat.reduceEqDiff, Nat.succ_ne_self, Nat.one_ne_zero, Nat.add_left_cancel_iff, ri_wpa, ri_wp, QLaw_law_30, QLaw_law_31, QLaw_law_32, hs0, hs1, h1, h2, hth, hkn, lgs, ic_add]
theorem L_jobByDue (hI : Inv n0 N0 z0 q G m N z) (hq : q ≤ 512) (hS : Sta n0 S0 G) (hs : Scr n0 s len sc G) (h7 : 7 * p + 7 ≤ len) : Lc n0 S0 N0 z0 q s p 1306 l6 l7 l8 l9 G m N z := by
  have k303 : kd 303 = 25 := rfl
  have k304 : kd 304 = 26 := rfl
  have k292 : kd 292 = 18 := rfl
  have hs0 := hs G m (fun _ _ => rfl)
  obtain ⟨k, G1, m1, N1, z1, v, m2, hk, h1, hG, h2, h3, h4, h5⟩ := W_jobByDue (P_jobByDue (S0 := S0) (rk := (sc (7 * p + 1))) hI hq)
  have hs1 := hs G1 m1 hG
  have hth : Mt (n0, S0) 41 128 [.ref (n0 + 292)] (hp n0 G1 m2, N1, z1) = _ := m_thrown (n0 := n0) (S0 := S0) (G := G1) (N := N1) (z := z1) (m := m2) (d := 40)
  rw [h3] at hth
  by_cases hk0 : k = 0
  · subst hk0
    have h4 := h4 rfl
    refine ⟨G1, m2, N1, z1, some (.int (ic 0)), some (.int v), l8, l9, ?_, hG, h5⟩
    simp (disch := first | assumption | (show (_ : Nat) < _; omega) | (show (_ : Nat) ≠ _; omega) | (show (_ : Nat) ≤ _; omega) | exact Or.inl rfl | exact Or.inr rfl) only [hG0, hG1, hG2, hF0, hF1, hA0, hA1, xL, xC, icL, Option.bind_some, Nat.le_add_right, Nat.le_refl, if_true, if_false, and_self, true_and, and_true, or_false, false_or, or_true, true_or, and_false, false_and, not_true_eq_false, not_false_eq_true, Nat.reduceAdd, Nat.reduceLeDiff, Nat.reduceLT, Option.toList_some, Option.toList_none, List.cons_append, List.nil_append, callK_ret, callR_ret, callK_thr, decide_true, Bool.true_and, xNr, bI0, bIT, bIF, ne_eq, Classical.not_not, not_false_eq_true, false_or, List.length_nil, icM, ic_lt, ic_eq, le_nl, ↓reduceIte, Nat.lt_irrefl, ri_ws, ri_wn, ri_as, ri_an, upd_s, upd_n, rp_wi, rp_wa, rl_wi, rl_wa, rl_wp, rl_wpa, rl_wl, rp_wl, ri_wl, rp_wd, ri_wd, in_rng, Int32.lt_irrefl, Nat.not_lt_zero, pk_nc, Nat.reduceEqDiff, Nat.succ_ne_self, Nat.one_ne_zero, Nat.add_left_cancel_iff, ri_wpa, ri_wp, QLaw_law_32, QLaw_law_33, hs0, hs1, h1, h2, hth, h4, lgs, ic_add]
  · have hkn : ¬ ic k = ic 0 := fun y => hk0 (by rw [ic_eq (by omega) (by omega)] at y; exact y)
    refine ⟨G1, m2, N1, z1, some (.int (ic k)), some (.int v), l8, l9, ?_, hG, h5⟩
    simp (disch := first | assumption | (show (_ : Nat) < _; omega) | (show (_ : Nat) ≠ _; omega) | (show (_ : Nat) ≤ _; omega) | exact Or.inl rfl | exact Or.inr rfl) only [hG0, hG1, hG2, hF0, hF1, hA0, hA1, xL, xC, icL, Option.bind_some, Nat.le_add_right, Nat.le_refl, if_true, if_false, and_self, true_and, and_true, or_false, false_or, or_true, true_or, and_false, false_and, not_true_eq_false, not_false_eq_true, Nat.reduceAdd, Nat.reduceLeDiff, Nat.reduceLT, Option.toList_some, Option.toList_none, List.cons_append, List.nil_append, callK_ret, callR_ret, callK_thr, decide_true, Bool.true_and, xNr, bI0, bIT, bIF, ne_eq, Classical.not_not, not_false_eq_true, false_or, List.length_nil, icM, ic_lt, ic_eq, le_nl, ↓reduceIte, Nat.lt_irrefl, ri_ws, ri_wn, ri_as, ri_an, upd_s, upd_n, rp_wi, rp_wa, rl_wi, rl_wa, rl_wp, rl_wpa, rl_wl, rp_wl, ri_wl, rp_wd, ri_wd, in_rng, Int32.lt_irrefl, Nat.not_lt_zero, pk_nc, Nat.reduceEqDiff, Nat.succ_ne_self, Nat.one_ne_zero, Nat.add_left_cancel_iff, ri_wpa, ri_wp, QLaw_law_32, QLaw_law_33, hs0, hs1, h1, h2, hth, hkn, lgs, ic_add]
theorem L_stock (hI : Inv n0 N0 z0 q G m N z) (hq : q ≤ 512) (hS : Sta n0 S0 G) (hs : Scr n0 s len sc G) (h7 : 7 * p + 7 ≤ len) : Lc n0 S0 N0 z0 q s p 1362 l6 l7 l8 l9 G m N z := by
  have k303 : kd 303 = 25 := rfl
  have k304 : kd 304 = 26 := rfl
  have k292 : kd 292 = 18 := rfl
  have hs0 := hs G m (fun _ _ => rfl)
  obtain ⟨k, G1, m1, N1, z1, v, m2, hk, h1, hG, h2, h3, h4, h5⟩ := W_stock (P_stock (S0 := S0) (k := (((sc (7 * p + 1)).toUInt32 % 65536).toInt32)) hI hq)
  have hs1 := hs G1 m1 hG
  have hth : Mt (n0, S0) 41 128 [.ref (n0 + 292)] (hp n0 G1 m2, N1, z1) = _ := m_thrown (n0 := n0) (S0 := S0) (G := G1) (N := N1) (z := z1) (m := m2) (d := 40)
  rw [h3] at hth
  by_cases hk0 : k = 0
  · subst hk0
    have h4 := h4 rfl
    refine ⟨G1, m2, N1, z1, some (.int (ic 0)), some (.int v), l8, l9, ?_, hG, h5⟩
    simp (disch := first | assumption | (show (_ : Nat) < _; omega) | (show (_ : Nat) ≠ _; omega) | (show (_ : Nat) ≤ _; omega) | exact Or.inl rfl | exact Or.inr rfl) only [hG0, hG1, hG2, hF0, hF1, hA0, hA1, xL, xC, icL, Option.bind_some, Nat.le_add_right, Nat.le_refl, if_true, if_false, and_self, true_and, and_true, or_false, false_or, or_true, true_or, and_false, false_and, not_true_eq_false, not_false_eq_true, Nat.reduceAdd, Nat.reduceLeDiff, Nat.reduceLT, Option.toList_some, Option.toList_none, List.cons_append, List.nil_append, callK_ret, callR_ret, callK_thr, decide_true, Bool.true_and, xNr, bI0, bIT, bIF, ne_eq, Classical.not_not, not_false_eq_true, false_or, List.length_nil, icM, ic_lt, ic_eq, le_nl, ↓reduceIte, Nat.lt_irrefl, ri_ws, ri_wn, ri_as, ri_an, upd_s, upd_n, rp_wi, rp_wa, rl_wi, rl_wa, rl_wp, rl_wpa, rl_wl, rp_wl, ri_wl, rp_wd, ri_wd, in_rng, Int32.lt_irrefl, Nat.not_lt_zero, pk_nc, Nat.reduceEqDiff, Nat.succ_ne_self, Nat.one_ne_zero, Nat.add_left_cancel_iff, ri_wpa, ri_wp, QLaw_law_33, QLaw_law_34, QLaw_law_35, hs0, hs1, h1, h2, hth, h4, lgs, ic_add]
  · have hkn : ¬ ic k = ic 0 := fun y => hk0 (by rw [ic_eq (by omega) (by omega)] at y; exact y)
    refine ⟨G1, m2, N1, z1, some (.int (ic k)), some (.int v), l8, l9, ?_, hG, h5⟩
    simp (disch := first | assumption | (show (_ : Nat) < _; omega) | (show (_ : Nat) ≠ _; omega) | (show (_ : Nat) ≤ _; omega) | exact Or.inl rfl | exact Or.inr rfl) only [hG0, hG1, hG2, hF0, hF1, hA0, hA1, xL, xC, icL, Option.bind_some, Nat.le_add_right, Nat.le_refl, if_true, if_false, and_self, true_and, and_true, or_false, false_or, or_true, true_or, and_false, false_and, not_true_eq_false, not_false_eq_true, Nat.reduceAdd, Nat.reduceLeDiff, Nat.reduceLT, Option.toList_some, Option.toList_none, List.cons_append, List.nil_append, callK_ret, callR_ret, callK_thr, decide_true, Bool.true_and, xNr, bI0, bIT, bIF, ne_eq, Classical.not_not, not_false_eq_true, false_or, List.length_nil, icM, ic_lt, ic_eq, le_nl, ↓reduceIte, Nat.lt_irrefl, ri_ws, ri_wn, ri_as, ri_an, upd_s, upd_n, rp_wi, rp_wa, rl_wi, rl_wa, rl_wp, rl_wpa, rl_wl, rp_wl, ri_wl, rp_wd, ri_wd, in_rng, Int32.lt_irrefl, Nat.not_lt_zero, pk_nc, Nat.reduceEqDiff, Nat.succ_ne_self, Nat.one_ne_zero, Nat.add_left_cancel_iff, ri_wpa, ri_wp, QLaw_law_33, QLaw_law_34, QLaw_law_35, hs0, hs1, h1, h2, hth, hkn, lgs, ic_add]
theorem L_parts (hI : Inv n0 N0 z0 q G m N z) (hq : q ≤ 512) (hS : Sta n0 S0 G) (hs : Scr n0 s len sc G) (h7 : 7 * p + 7 ≤ len) : Lc n0 S0 N0 z0 q s p 1420 l6 l7 l8 l9 G m N z := by
  have k303 : kd 303 = 25 := rfl
  have k304 : kd 304 = 26 := rfl
  have k292 : kd 292 = 18 := rfl
  have hs0 := hs G m (fun _ _ => rfl)
  obtain ⟨k, G1, m1, N1, z1, v, m2, hk, h1, hG, h2, h3, h4, h5⟩ := W_parts (P_parts (S0 := S0) (w := (sc (7 * p + 1))) (k := (((sc (7 * p + 2)).toUInt32 % 65536).toInt32)) hI hq)
  have hs1 := hs G1 m1 hG
  have hth : Mt (n0, S0) 41 128 [.ref (n0 + 292)] (hp n0 G1 m2, N1, z1) = _ := m_thrown (n0 := n0) (S0 := S0) (G := G1) (N := N1) (z := z1) (m := m2) (d := 40)
  rw [h3] at hth
  by_cases hk0 : k = 0
  · subst hk0
    have h4 := h4 rfl
    refine ⟨G1, m2, N1, z1, some (.int (ic 0)), some (.int v), l8, l9, ?_, hG, h5⟩
    simp (disch := first | assumption | (show (_ : Nat) < _; omega) | (show (_ : Nat) ≠ _; omega) | (show (_ : Nat) ≤ _; omega) | exact Or.inl rfl | exact Or.inr rfl) only [hG0, hG1, hG2, hF0, hF1, hA0, hA1, xL, xC, icL, Option.bind_some, Nat.le_add_right, Nat.le_refl, if_true, if_false, and_self, true_and, and_true, or_false, false_or, or_true, true_or, and_false, false_and, not_true_eq_false, not_false_eq_true, Nat.reduceAdd, Nat.reduceLeDiff, Nat.reduceLT, Option.toList_some, Option.toList_none, List.cons_append, List.nil_append, callK_ret, callR_ret, callK_thr, decide_true, Bool.true_and, xNr, bI0, bIT, bIF, ne_eq, Classical.not_not, not_false_eq_true, false_or, List.length_nil, icM, ic_lt, ic_eq, le_nl, ↓reduceIte, Nat.lt_irrefl, ri_ws, ri_wn, ri_as, ri_an, upd_s, upd_n, rp_wi, rp_wa, rl_wi, rl_wa, rl_wp, rl_wpa, rl_wl, rp_wl, ri_wl, rp_wd, ri_wd, in_rng, Int32.lt_irrefl, Nat.not_lt_zero, pk_nc, Nat.reduceEqDiff, Nat.succ_ne_self, Nat.one_ne_zero, Nat.add_left_cancel_iff, ri_wpa, ri_wp, QLaw_law_35, QLaw_law_36, QLaw_law_37, hs0, hs1, h1, h2, hth, h4, lgs, ic_add]
  · have hkn : ¬ ic k = ic 0 := fun y => hk0 (by rw [ic_eq (by omega) (by omega)] at y; exact y)
    refine ⟨G1, m2, N1, z1, some (.int (ic k)), some (.int v), l8, l9, ?_, hG, h5⟩
    simp (disch := first | assumption | (show (_ : Nat) < _; omega) | (show (_ : Nat) ≠ _; omega) | (show (_ : Nat) ≤ _; omega) | exact Or.inl rfl | exact Or.inr rfl) only [hG0, hG1, hG2, hF0, hF1, hA0, hA1, xL, xC, icL, Option.bind_some, Nat.le_add_right, Nat.le_refl, if_true, if_false, and_self, true_and, and_true, or_false, false_or, or_true, true_or, and_false, false_and, not_true_eq_false, not_false_eq_true, Nat.reduceAdd, Nat.reduceLeDiff, Nat.reduceLT, Option.toList_some, Option.toList_none, List.cons_append, List.nil_append, callK_ret, callR_ret, callK_thr, decide_true, Bool.true_and, xNr, bI0, bIT, bIF, ne_eq, Classical.not_not, not_false_eq_true, false_or, List.length_nil, icM, ic_lt, ic_eq, le_nl, ↓reduceIte, Nat.lt_irrefl, ri_ws, ri_wn, ri_as, ri_an, upd_s, upd_n, rp_wi, rp_wa, rl_wi, rl_wa, rl_wp, rl_wpa, rl_wl, rp_wl, ri_wl, rp_wd, ri_wd, in_rng, Int32.lt_irrefl, Nat.not_lt_zero, pk_nc, Nat.reduceEqDiff, Nat.succ_ne_self, Nat.one_ne_zero, Nat.add_left_cancel_iff, ri_wpa, ri_wp, QLaw_law_35, QLaw_law_36, QLaw_law_37, hs0, hs1, h1, h2, hth, hkn, lgs, ic_add]
theorem L_tools (hI : Inv n0 N0 z0 q G m N z) (hq : q ≤ 512) (hS : Sta n0 S0 G) (hs : Scr n0 s len sc G) (h7 : 7 * p + 7 ≤ len) : Lc n0 S0 N0 z0 q s p 1490 l6 l7 l8 l9 G m N z := by
  have k303 : kd 303 = 25 := rfl
  have k304 : kd 304 = 26 := rfl
  have k292 : kd 292 = 18 := rfl
  have hs0 := hs G m (fun _ _ => rfl)
  obtain ⟨k, G1, m1, N1, z1, v, m2, hk, h1, hG, h2, h3, h4, h5⟩ := W_tools (P_tools (S0 := S0) (w := (sc (7 * p + 1))) hI hq)
  have hs1 := hs G1 m1 hG
  have hth : Mt (n0, S0) 41 128 [.ref (n0 + 292)] (hp n0 G1 m2, N1, z1) = _ := m_thrown (n0 := n0) (S0 := S0) (G := G1) (N := N1) (z := z1) (m := m2) (d := 40)
  rw [h3] at hth
  by_cases hk0 : k = 0
  · subst hk0
    have h4 := h4 rfl
    refine ⟨G1, m2, N1, z1, some (.int (ic 0)), some (.int v), l8, l9, ?_, hG, h5⟩
    simp (disch := first | assumption | (show (_ : Nat) < _; omega) | (show (_ : Nat) ≠ _; omega) | (show (_ : Nat) ≤ _; omega) | exact Or.inl rfl | exact Or.inr rfl) only [hG0, hG1, hG2, hF0, hF1, hA0, hA1, xL, xC, icL, Option.bind_some, Nat.le_add_right, Nat.le_refl, if_true, if_false, and_self, true_and, and_true, or_false, false_or, or_true, true_or, and_false, false_and, not_true_eq_false, not_false_eq_true, Nat.reduceAdd, Nat.reduceLeDiff, Nat.reduceLT, Option.toList_some, Option.toList_none, List.cons_append, List.nil_append, callK_ret, callR_ret, callK_thr, decide_true, Bool.true_and, xNr, bI0, bIT, bIF, ne_eq, Classical.not_not, not_false_eq_true, false_or, List.length_nil, icM, ic_lt, ic_eq, le_nl, ↓reduceIte, Nat.lt_irrefl, ri_ws, ri_wn, ri_as, ri_an, upd_s, upd_n, rp_wi, rp_wa, rl_wi, rl_wa, rl_wp, rl_wpa, rl_wl, rp_wl, ri_wl, rp_wd, ri_wd, in_rng, Int32.lt_irrefl, Nat.not_lt_zero, pk_nc, Nat.reduceEqDiff, Nat.succ_ne_self, Nat.one_ne_zero, Nat.add_left_cancel_iff, ri_wpa, ri_wp, QLaw_law_37, QLaw_law_38, QLaw_law_39, hs0, hs1, h1, h2, hth, h4, lgs, ic_add]
  · have hkn : ¬ ic k = ic 0 := fun y => hk0 (by rw [ic_eq (by omega) (by omega)] at y; exact y)
    refine ⟨G1, m2, N1, z1, some (.int (ic k)), some (.int v), l8, l9, ?_, hG, h5⟩
    simp (disch := first | assumption | (show (_ : Nat) < _; omega) | (show (_ : Nat) ≠ _; omega) | (show (_ : Nat) ≤ _; omega) | exact Or.inl rfl | exact Or.inr rfl) only [hG0, hG1, hG2, hF0, hF1, hA0, hA1, xL, xC, icL, Option.bind_some, Nat.le_add_right, Nat.le_refl, if_true, if_false, and_self, true_and, and_true, or_false, false_or, or_true, true_or, and_false, false_and, not_true_eq_false, not_false_eq_true, Nat.reduceAdd, Nat.reduceLeDiff, Nat.reduceLT, Option.toList_some, Option.toList_none, List.cons_append, List.nil_append, callK_ret, callR_ret, callK_thr, decide_true, Bool.true_and, xNr, bI0, bIT, bIF, ne_eq, Classical.not_not, not_false_eq_true, false_or, List.length_nil, icM, ic_lt, ic_eq, le_nl, ↓reduceIte, Nat.lt_irrefl, ri_ws, ri_wn, ri_as, ri_an, upd_s, upd_n, rp_wi, rp_wa, rl_wi, rl_wa, rl_wp, rl_wpa, rl_wl, rp_wl, ri_wl, rp_wd, ri_wd, in_rng, Int32.lt_irrefl, Nat.not_lt_zero, pk_nc, Nat.reduceEqDiff, Nat.succ_ne_self, Nat.one_ne_zero, Nat.add_left_cancel_iff, ri_wpa, ri_wp, QLaw_law_37, QLaw_law_38, QLaw_law_39, hs0, hs1, h1, h2, hth, hkn, lgs, ic_add]
theorem L_holder (hI : Inv n0 N0 z0 q G m N z) (hq : q ≤ 512) (hS : Sta n0 S0 G) (hs : Scr n0 s len sc G) (h7 : 7 * p + 7 ≤ len) : Lc n0 S0 N0 z0 q s p 1546 l6 l7 l8 l9 G m N z := by
  have k303 : kd 303 = 25 := rfl
  have k304 : kd 304 = 26 := rfl
  have k292 : kd 292 = 18 := rfl
  have hs0 := hs G m (fun _ _ => rfl)
  obtain ⟨k, G1, m1, N1, z1, v, m2, hk, h1, hG, h2, h3, h4, h5⟩ := W_holder (P_holder (S0 := S0) (t := (sc (7 * p + 1))) hI hq)
  have hs1 := hs G1 m1 hG
  have hth : Mt (n0, S0) 41 128 [.ref (n0 + 292)] (hp n0 G1 m2, N1, z1) = _ := m_thrown (n0 := n0) (S0 := S0) (G := G1) (N := N1) (z := z1) (m := m2) (d := 40)
  rw [h3] at hth
  by_cases hk0 : k = 0
  · subst hk0
    have h4 := h4 rfl
    refine ⟨G1, m2, N1, z1, some (.int (ic 0)), some (.int v), l8, l9, ?_, hG, h5⟩
    simp (disch := first | assumption | (show (_ : Nat) < _; omega) | (show (_ : Nat) ≠ _; omega) | (show (_ : Nat) ≤ _; omega) | exact Or.inl rfl | exact Or.inr rfl) only [hG0, hG1, hG2, hF0, hF1, hA0, hA1, xL, xC, icL, Option.bind_some, Nat.le_add_right, Nat.le_refl, if_true, if_false, and_self, true_and, and_true, or_false, false_or, or_true, true_or, and_false, false_and, not_true_eq_false, not_false_eq_true, Nat.reduceAdd, Nat.reduceLeDiff, Nat.reduceLT, Option.toList_some, Option.toList_none, List.cons_append, List.nil_append, callK_ret, callR_ret, callK_thr, decide_true, Bool.true_and, xNr, bI0, bIT, bIF, ne_eq, Classical.not_not, not_false_eq_true, false_or, List.length_nil, icM, ic_lt, ic_eq, le_nl, ↓reduceIte, Nat.lt_irrefl, ri_ws, ri_wn, ri_as, ri_an, upd_s, upd_n, rp_wi, rp_wa, rl_wi, rl_wa, rl_wp, rl_wpa, rl_wl, rp_wl, ri_wl, rp_wd, ri_wd, in_rng, Int32.lt_irrefl, Nat.not_lt_zero, pk_nc, Nat.reduceEqDiff, Nat.succ_ne_self, Nat.one_ne_zero, Nat.add_left_cancel_iff, ri_wpa, ri_wp, QLaw_law_39, QLaw_law_40, hs0, hs1, h1, h2, hth, h4, lgs, ic_add]
  · have hkn : ¬ ic k = ic 0 := fun y => hk0 (by rw [ic_eq (by omega) (by omega)] at y; exact y)
    refine ⟨G1, m2, N1, z1, some (.int (ic k)), some (.int v), l8, l9, ?_, hG, h5⟩
    simp (disch := first | assumption | (show (_ : Nat) < _; omega) | (show (_ : Nat) ≠ _; omega) | (show (_ : Nat) ≤ _; omega) | exact Or.inl rfl | exact Or.inr rfl) only [hG0, hG1, hG2, hF0, hF1, hA0, hA1, xL, xC, icL, Option.bind_some, Nat.le_add_right, Nat.le_refl, if_true, if_false, and_self, true_and, and_true, or_false, false_or, or_true, true_or, and_false, false_and, not_true_eq_false, not_false_eq_true, Nat.reduceAdd, Nat.reduceLeDiff, Nat.reduceLT, Option.toList_some, Option.toList_none, List.cons_append, List.nil_append, callK_ret, callR_ret, callK_thr, decide_true, Bool.true_and, xNr, bI0, bIT, bIF, ne_eq, Classical.not_not, not_false_eq_true, false_or, List.length_nil, icM, ic_lt, ic_eq, le_nl, ↓reduceIte, Nat.lt_irrefl, ri_ws, ri_wn, ri_as, ri_an, upd_s, upd_n, rp_wi, rp_wa, rl_wi, rl_wa, rl_wp, rl_wpa, rl_wl, rp_wl, ri_wl, rp_wd, ri_wd, in_rng, Int32.lt_irrefl, Nat.not_lt_zero, pk_nc, Nat.reduceEqDiff, Nat.succ_ne_self, Nat.one_ne_zero, Nat.add_left_cancel_iff, ri_wpa, ri_wp, QLaw_law_39, QLaw_law_40, hs0, hs1, h1, h2, hth, hkn, lgs, ic_add]
theorem L_barrowX (hI : Inv n0 N0 z0 q G m N z) (hq : q ≤ 512) (hS : Sta n0 S0 G) (hs : Scr n0 s len sc G) (h7 : 7 * p + 7 ≤ len) : Lc n0 S0 N0 z0 q s p 1602 l6 l7 l8 l9 G m N z := by
  have k303 : kd 303 = 25 := rfl
  have k304 : kd 304 = 26 := rfl
  have k292 : kd 292 = 18 := rfl
  have hs0 := hs G m (fun _ _ => rfl)
  obtain ⟨k, G1, m1, N1, z1, v, m2, hk, h1, hG, h2, h3, h4, h5⟩ := W_barrowX (P_barrowX (S0 := S0) (w := (sc (7 * p + 1))) hI hq)
  have hs1 := hs G1 m1 hG
  have hth : Mt (n0, S0) 41 128 [.ref (n0 + 292)] (hp n0 G1 m2, N1, z1) = _ := m_thrown (n0 := n0) (S0 := S0) (G := G1) (N := N1) (z := z1) (m := m2) (d := 40)
  rw [h3] at hth
  by_cases hk0 : k = 0
  · subst hk0
    have h4 := h4 rfl
    refine ⟨G1, m2, N1, z1, some (.int (ic 0)), some (.int v), l8, l9, ?_, hG, h5⟩
    simp (disch := first | assumption | (show (_ : Nat) < _; omega) | (show (_ : Nat) ≠ _; omega) | (show (_ : Nat) ≤ _; omega) | exact Or.inl rfl | exact Or.inr rfl) only [hG0, hG1, hG2, hF0, hF1, hA0, hA1, xL, xC, icL, Option.bind_some, Nat.le_add_right, Nat.le_refl, if_true, if_false, and_self, true_and, and_true, or_false, false_or, or_true, true_or, and_false, false_and, not_true_eq_false, not_false_eq_true, Nat.reduceAdd, Nat.reduceLeDiff, Nat.reduceLT, Option.toList_some, Option.toList_none, List.cons_append, List.nil_append, callK_ret, callR_ret, callK_thr, decide_true, Bool.true_and, xNr, bI0, bIT, bIF, ne_eq, Classical.not_not, not_false_eq_true, false_or, List.length_nil, icM, ic_lt, ic_eq, le_nl, ↓reduceIte, Nat.lt_irrefl, ri_ws, ri_wn, ri_as, ri_an, upd_s, upd_n, rp_wi, rp_wa, rl_wi, rl_wa, rl_wp, rl_wpa, rl_wl, rp_wl, ri_wl, rp_wd, ri_wd, in_rng, Int32.lt_irrefl, Nat.not_lt_zero, pk_nc, Nat.reduceEqDiff, Nat.succ_ne_self, Nat.one_ne_zero, Nat.add_left_cancel_iff, ri_wpa, ri_wp, QLaw_law_40, QLaw_law_41, QLaw_law_42, hs0, hs1, h1, h2, hth, h4, lgs, ic_add]
  · have hkn : ¬ ic k = ic 0 := fun y => hk0 (by rw [ic_eq (by omega) (by omega)] at y; exact y)
    refine ⟨G1, m2, N1, z1, some (.int (ic k)), some (.int v), l8, l9, ?_, hG, h5⟩
    simp (disch := first | assumption | (show (_ : Nat) < _; omega) | (show (_ : Nat) ≠ _; omega) | (show (_ : Nat) ≤ _; omega) | exact Or.inl rfl | exact Or.inr rfl) only [hG0, hG1, hG2, hF0, hF1, hA0, hA1, xL, xC, icL, Option.bind_some, Nat.le_add_right, Nat.le_refl, if_true, if_false, and_self, true_and, and_true, or_false, false_or, or_true, true_or, and_false, false_and, not_true_eq_false, not_false_eq_true, Nat.reduceAdd, Nat.reduceLeDiff, Nat.reduceLT, Option.toList_some, Option.toList_none, List.cons_append, List.nil_append, callK_ret, callR_ret, callK_thr, decide_true, Bool.true_and, xNr, bI0, bIT, bIF, ne_eq, Classical.not_not, not_false_eq_true, false_or, List.length_nil, icM, ic_lt, ic_eq, le_nl, ↓reduceIte, Nat.lt_irrefl, ri_ws, ri_wn, ri_as, ri_an, upd_s, upd_n, rp_wi, rp_wa, rl_wi, rl_wa, rl_wp, rl_wpa, rl_wl, rp_wl, ri_wl, rp_wd, ri_wd, in_rng, Int32.lt_irrefl, Nat.not_lt_zero, pk_nc, Nat.reduceEqDiff, Nat.succ_ne_self, Nat.one_ne_zero, Nat.add_left_cancel_iff, ri_wpa, ri_wp, QLaw_law_40, QLaw_law_41, QLaw_law_42, hs0, hs1, h1, h2, hth, hkn, lgs, ic_add]
theorem L_barrowY (hI : Inv n0 N0 z0 q G m N z) (hq : q ≤ 512) (hS : Sta n0 S0 G) (hs : Scr n0 s len sc G) (h7 : 7 * p + 7 ≤ len) : Lc n0 S0 N0 z0 q s p 1658 l6 l7 l8 l9 G m N z := by
  have k303 : kd 303 = 25 := rfl
  have k304 : kd 304 = 26 := rfl
  have k292 : kd 292 = 18 := rfl
  have hs0 := hs G m (fun _ _ => rfl)
  obtain ⟨k, G1, m1, N1, z1, v, m2, hk, h1, hG, h2, h3, h4, h5⟩ := W_barrowY (P_barrowY (S0 := S0) (w := (sc (7 * p + 1))) hI hq)
  have hs1 := hs G1 m1 hG
  have hth : Mt (n0, S0) 41 128 [.ref (n0 + 292)] (hp n0 G1 m2, N1, z1) = _ := m_thrown (n0 := n0) (S0 := S0) (G := G1) (N := N1) (z := z1) (m := m2) (d := 40)
  rw [h3] at hth
  by_cases hk0 : k = 0
  · subst hk0
    have h4 := h4 rfl
    refine ⟨G1, m2, N1, z1, some (.int (ic 0)), some (.int v), l8, l9, ?_, hG, h5⟩
    simp (disch := first | assumption | (show (_ : Nat) < _; omega) | (show (_ : Nat) ≠ _; omega) | (show (_ : Nat) ≤ _; omega) | exact Or.inl rfl | exact Or.inr rfl) only [hG0, hG1, hG2, hF0, hF1, hA0, hA1, xL, xC, icL, Option.bind_some, Nat.le_add_right, Nat.le_refl, if_true, if_false, and_self, true_and, and_true, or_false, false_or, or_true, true_or, and_false, false_and, not_true_eq_false, not_false_eq_true, Nat.reduceAdd, Nat.reduceLeDiff, Nat.reduceLT, Option.toList_some, Option.toList_none, List.cons_append, List.nil_append, callK_ret, callR_ret, callK_thr, decide_true, Bool.true_and, xNr, bI0, bIT, bIF, ne_eq, Classical.not_not, not_false_eq_true, false_or, List.length_nil, icM, ic_lt, ic_eq, le_nl, ↓reduceIte, Nat.lt_irrefl, ri_ws, ri_wn, ri_as, ri_an, upd_s, upd_n, rp_wi, rp_wa, rl_wi, rl_wa, rl_wp, rl_wpa, rl_wl, rp_wl, ri_wl, rp_wd, ri_wd, in_rng, Int32.lt_irrefl, Nat.not_lt_zero, pk_nc, Nat.reduceEqDiff, Nat.succ_ne_self, Nat.one_ne_zero, Nat.add_left_cancel_iff, ri_wpa, ri_wp, QLaw_law_42, QLaw_law_43, hs0, hs1, h1, h2, hth, h4, lgs, ic_add]
  · have hkn : ¬ ic k = ic 0 := fun y => hk0 (by rw [ic_eq (by omega) (by omega)] at y; exact y)
    refine ⟨G1, m2, N1, z1, some (.int (ic k)), some (.int v), l8, l9, ?_, hG, h5⟩
    simp (disch := first | assumption | (show (_ : Nat) < _; omega) | (show (_ : Nat) ≠ _; omega) | (show (_ : Nat) ≤ _; omega) | exact Or.inl rfl | exact Or.inr rfl) only [hG0, hG1, hG2, hF0, hF1, hA0, hA1, xL, xC, icL, Option.bind_some, Nat.le_add_right, Nat.le_refl, if_true, if_false, and_self, true_and, and_true, or_false, false_or, or_true, true_or, and_false, false_and, not_true_eq_false, not_false_eq_true, Nat.reduceAdd, Nat.reduceLeDiff, Nat.reduceLT, Option.toList_some, Option.toList_none, List.cons_append, List.nil_append, callK_ret, callR_ret, callK_thr, decide_true, Bool.true_and, xNr, bI0, bIT, bIF, ne_eq, Classical.not_not, not_false_eq_true, false_or, List.length_nil, icM, ic_lt, ic_eq, le_nl, ↓reduceIte, Nat.lt_irrefl, ri_ws, ri_wn, ri_as, ri_an, upd_s, upd_n, rp_wi, rp_wa, rl_wi, rl_wa, rl_wp, rl_wpa, rl_wl, rp_wl, ri_wl, rp_wd, ri_wd, in_rng, Int32.lt_irrefl, Nat.not_lt_zero, pk_nc, Nat.reduceEqDiff, Nat.succ_ne_self, Nat.one_ne_zero, Nat.add_left_cancel_iff, ri_wpa, ri_wp, QLaw_law_42, QLaw_law_43, hs0, hs1, h1, h2, hth, hkn, lgs, ic_add]
theorem L_clock (hI : Inv n0 N0 z0 q G m N z) (hq : q ≤ 512) (hS : Sta n0 S0 G) (hs : Scr n0 s len sc G) (h7 : 7 * p + 7 ≤ len) : Lc n0 S0 N0 z0 q s p 1714 l6 l7 l8 l9 G m N z := by
  have k303 : kd 303 = 25 := rfl
  have k304 : kd 304 = 26 := rfl
  have k292 : kd 292 = 18 := rfl
  have hs0 := hs G m (fun _ _ => rfl)
  obtain ⟨k, G1, m1, N1, z1, v, m2, hk, h1, hG, h2, h3, h4, h5⟩ := W_clock (P_clock (S0 := S0) (w := (sc (7 * p + 1))) hI hq)
  have hs1 := hs G1 m1 hG
  have hth : Mt (n0, S0) 41 128 [.ref (n0 + 292)] (hp n0 G1 m2, N1, z1) = _ := m_thrown (n0 := n0) (S0 := S0) (G := G1) (N := N1) (z := z1) (m := m2) (d := 40)
  rw [h3] at hth
  by_cases hk0 : k = 0
  · subst hk0
    have h4 := h4 rfl
    refine ⟨G1, m2, N1, z1, some (.int (ic 0)), some (.int v), l8, l9, ?_, hG, h5⟩
    simp (disch := first | assumption | (show (_ : Nat) < _; omega) | (show (_ : Nat) ≠ _; omega) | (show (_ : Nat) ≤ _; omega) | exact Or.inl rfl | exact Or.inr rfl) only [hG0, hG1, hG2, hF0, hF1, hA0, hA1, xL, xC, icL, Option.bind_some, Nat.le_add_right, Nat.le_refl, if_true, if_false, and_self, true_and, and_true, or_false, false_or, or_true, true_or, and_false, false_and, not_true_eq_false, not_false_eq_true, Nat.reduceAdd, Nat.reduceLeDiff, Nat.reduceLT, Option.toList_some, Option.toList_none, List.cons_append, List.nil_append, callK_ret, callR_ret, callK_thr, decide_true, Bool.true_and, xNr, bI0, bIT, bIF, ne_eq, Classical.not_not, not_false_eq_true, false_or, List.length_nil, icM, ic_lt, ic_eq, le_nl, ↓reduceIte, Nat.lt_irrefl, ri_ws, ri_wn, ri_as, ri_an, upd_s, upd_n, rp_wi, rp_wa, rl_wi, rl_wa, rl_wp, rl_wpa, rl_wl, rp_wl, ri_wl, rp_wd, ri_wd, in_rng, Int32.lt_irrefl, Nat.not_lt_zero, pk_nc, Nat.reduceEqDiff, Nat.succ_ne_self, Nat.one_ne_zero, Nat.add_left_cancel_iff, ri_wpa, ri_wp, QLaw_law_43, QLaw_law_44, QLaw_law_45, hs0, hs1, h1, h2, hth, h4, lgs, ic_add]
  · have hkn : ¬ ic k = ic 0 := fun y => hk0 (by rw [ic_eq (by omega) (by omega)] at y; exact y)
    refine ⟨G1, m2, N1, z1, some (.int (ic k)), some (.int v), l8, l9, ?_, hG, h5⟩
    simp (disch := first | assumption | (show (_ : Nat) < _; omega) | (show (_ : Nat) ≠ _; omega) | (show (_ : Nat) ≤ _; omega) | exact Or.inl rfl | exact Or.inr rfl) only [hG0, hG1, hG2, hF0, hF1, hA0, hA1, xL, xC, icL, Option.bind_some, Nat.le_add_right, Nat.le_refl, if_true, if_false, and_self, true_and, and_true, or_false, false_or, or_true, true_or, and_false, false_and, not_true_eq_false, not_false_eq_true, Nat.reduceAdd, Nat.reduceLeDiff, Nat.reduceLT, Option.toList_some, Option.toList_none, List.cons_append, List.nil_append, callK_ret, callR_ret, callK_thr, decide_true, Bool.true_and, xNr, bI0, bIT, bIF, ne_eq, Classical.not_not, not_false_eq_true, false_or, List.length_nil, icM, ic_lt, ic_eq, le_nl, ↓reduceIte, Nat.lt_irrefl, ri_ws, ri_wn, ri_as, ri_an, upd_s, upd_n, rp_wi, rp_wa, rl_wi, rl_wa, rl_wp, rl_wpa, rl_wl, rp_wl, ri_wl, rp_wd, ri_wd, in_rng, Int32.lt_irrefl, Nat.not_lt_zero, pk_nc, Nat.reduceEqDiff, Nat.succ_ne_self, Nat.one_ne_zero, Nat.add_left_cancel_iff, ri_wpa, ri_wp, QLaw_law_43, QLaw_law_44, QLaw_law_45, hs0, hs1, h1, h2, hth, hkn, lgs, ic_add]
theorem L_isHome (hI : Inv n0 N0 z0 q G m N z) (hq : q ≤ 512) (hS : Sta n0 S0 G) (hs : Scr n0 s len sc G) (h7 : 7 * p + 7 ≤ len) : Lc n0 S0 N0 z0 q s p 1770 l6 l7 l8 l9 G m N z := by
  have k303 : kd 303 = 25 := rfl
  have k304 : kd 304 = 26 := rfl
  have k292 : kd 292 = 18 := rfl
  have hs0 := hs G m (fun _ _ => rfl)
  obtain ⟨k, G1, m1, N1, z1, v, m2, hk, h1, hG, h2, h3, h4, h5⟩ := W_isHome (P_isHome (S0 := S0) (w := (sc (7 * p + 1))) hI hq)
  have hs1 := hs G1 m1 hG
  have hth : Mt (n0, S0) 41 128 [.ref (n0 + 292)] (hp n0 G1 m2, N1, z1) = _ := m_thrown (n0 := n0) (S0 := S0) (G := G1) (N := N1) (z := z1) (m := m2) (d := 40)
  rw [h3] at hth
  by_cases hk0 : k = 0
  · subst hk0
    have h4 := h4 rfl
    refine ⟨G1, m2, N1, z1, some (.int (ic 0)), some (.int v), l8, l9, ?_, hG, h5⟩
    unfold bL at h4
    by_cases hv : v = ic 0
    · rw [if_pos hv] at h4
      simp (disch := first | assumption | (show (_ : Nat) < _; omega) | (show (_ : Nat) ≠ _; omega) | (show (_ : Nat) ≤ _; omega) | exact Or.inl rfl | exact Or.inr rfl) only [hG0, hG1, hG2, hF0, hF1, hA0, hA1, xL, xC, icL, Option.bind_some, Nat.le_add_right, Nat.le_refl, if_true, if_false, and_self, true_and, and_true, or_false, false_or, or_true, true_or, and_false, false_and, not_true_eq_false, not_false_eq_true, Nat.reduceAdd, Nat.reduceLeDiff, Nat.reduceLT, Option.toList_some, Option.toList_none, List.cons_append, List.nil_append, callK_ret, callR_ret, callK_thr, decide_true, Bool.true_and, xNr, bI0, bIT, bIF, ne_eq, Classical.not_not, not_false_eq_true, false_or, List.length_nil, icM, ic_lt, ic_eq, le_nl, ↓reduceIte, Nat.lt_irrefl, ri_ws, ri_wn, ri_as, ri_an, upd_s, upd_n, rp_wi, rp_wa, rl_wi, rl_wa, rl_wp, rl_wpa, rl_wl, rp_wl, ri_wl, rp_wd, ri_wd, in_rng, Int32.lt_irrefl, Nat.not_lt_zero, pk_nc, Nat.reduceEqDiff, Nat.succ_ne_self, Nat.one_ne_zero, Nat.add_left_cancel_iff, ri_wpa, ri_wp, QLaw_law_45, QLaw_law_46, hs0, hs1, h1, h2, hth, h4, lgs, ic_add, hv]
    · rw [if_neg hv] at h4
      simp (disch := first | assumption | (show (_ : Nat) < _; omega) | (show (_ : Nat) ≠ _; omega) | (show (_ : Nat) ≤ _; omega) | exact Or.inl rfl | exact Or.inr rfl) only [hG0, hG1, hG2, hF0, hF1, hA0, hA1, xL, xC, icL, Option.bind_some, Nat.le_add_right, Nat.le_refl, if_true, if_false, and_self, true_and, and_true, or_false, false_or, or_true, true_or, and_false, false_and, not_true_eq_false, not_false_eq_true, Nat.reduceAdd, Nat.reduceLeDiff, Nat.reduceLT, Option.toList_some, Option.toList_none, List.cons_append, List.nil_append, callK_ret, callR_ret, callK_thr, decide_true, Bool.true_and, xNr, bI0, bIT, bIF, ne_eq, Classical.not_not, not_false_eq_true, false_or, List.length_nil, icM, ic_lt, ic_eq, le_nl, ↓reduceIte, Nat.lt_irrefl, ri_ws, ri_wn, ri_as, ri_an, upd_s, upd_n, rp_wi, rp_wa, rl_wi, rl_wa, rl_wp, rl_wpa, rl_wl, rp_wl, ri_wl, rp_wd, ri_wd, in_rng, Int32.lt_irrefl, Nat.not_lt_zero, pk_nc, Nat.reduceEqDiff, Nat.succ_ne_self, Nat.one_ne_zero, Nat.add_left_cancel_iff, ri_wpa, ri_wp, QLaw_law_45, QLaw_law_46, hs0, hs1, h1, h2, hth, h4, lgs, ic_add, hv]
  · have hkn : ¬ ic k = ic 0 := fun y => hk0 (by rw [ic_eq (by omega) (by omega)] at y; exact y)
    refine ⟨G1, m2, N1, z1, some (.int (ic k)), some (.int v), l8, l9, ?_, hG, h5⟩
    simp (disch := first | assumption | (show (_ : Nat) < _; omega) | (show (_ : Nat) ≠ _; omega) | (show (_ : Nat) ≤ _; omega) | exact Or.inl rfl | exact Or.inr rfl) only [hG0, hG1, hG2, hF0, hF1, hA0, hA1, xL, xC, icL, Option.bind_some, Nat.le_add_right, Nat.le_refl, if_true, if_false, and_self, true_and, and_true, or_false, false_or, or_true, true_or, and_false, false_and, not_true_eq_false, not_false_eq_true, Nat.reduceAdd, Nat.reduceLeDiff, Nat.reduceLT, Option.toList_some, Option.toList_none, List.cons_append, List.nil_append, callK_ret, callR_ret, callK_thr, decide_true, Bool.true_and, xNr, bI0, bIT, bIF, ne_eq, Classical.not_not, not_false_eq_true, false_or, List.length_nil, icM, ic_lt, ic_eq, le_nl, ↓reduceIte, Nat.lt_irrefl, ri_ws, ri_wn, ri_as, ri_an, upd_s, upd_n, rp_wi, rp_wa, rl_wi, rl_wa, rl_wp, rl_wpa, rl_wl, rp_wl, ri_wl, rp_wd, ri_wd, in_rng, Int32.lt_irrefl, Nat.not_lt_zero, pk_nc, Nat.reduceEqDiff, Nat.succ_ne_self, Nat.one_ne_zero, Nat.add_left_cancel_iff, ri_wpa, ri_wp, QLaw_law_45, QLaw_law_46, hs0, hs1, h1, h2, hth, hkn, lgs, ic_add]
theorem L_assigned (hI : Inv n0 N0 z0 q G m N z) (hq : q ≤ 512) (hS : Sta n0 S0 G) (hs : Scr n0 s len sc G) (h7 : 7 * p + 7 ≤ len) : Lc n0 S0 N0 z0 q s p 1833 l6 l7 l8 l9 G m N z := by
  have k303 : kd 303 = 25 := rfl
  have k304 : kd 304 = 26 := rfl
  have k292 : kd 292 = 18 := rfl
  have hs0 := hs G m (fun _ _ => rfl)
  obtain ⟨k, G1, m1, N1, z1, v, m2, hk, h1, hG, h2, h3, h4, h5⟩ := W_assigned (P_assigned (S0 := S0) (w := (sc (7 * p + 1))) hI hq)
  have hs1 := hs G1 m1 hG
  have hth : Mt (n0, S0) 41 128 [.ref (n0 + 292)] (hp n0 G1 m2, N1, z1) = _ := m_thrown (n0 := n0) (S0 := S0) (G := G1) (N := N1) (z := z1) (m := m2) (d := 40)
  rw [h3] at hth
  by_cases hk0 : k = 0
  · subst hk0
    have h4 := h4 rfl
    refine ⟨G1, m2, N1, z1, some (.int (ic 0)), some (.int v), l8, l9, ?_, hG, h5⟩
    simp (disch := first | assumption | (show (_ : Nat) < _; omega) | (show (_ : Nat) ≠ _; omega) | (show (_ : Nat) ≤ _; omega) | exact Or.inl rfl | exact Or.inr rfl) only [hG0, hG1, hG2, hF0, hF1, hA0, hA1, xL, xC, icL, Option.bind_some, Nat.le_add_right, Nat.le_refl, if_true, if_false, and_self, true_and, and_true, or_false, false_or, or_true, true_or, and_false, false_and, not_true_eq_false, not_false_eq_true, Nat.reduceAdd, Nat.reduceLeDiff, Nat.reduceLT, Option.toList_some, Option.toList_none, List.cons_append, List.nil_append, callK_ret, callR_ret, callK_thr, decide_true, Bool.true_and, xNr, bI0, bIT, bIF, ne_eq, Classical.not_not, not_false_eq_true, false_or, List.length_nil, icM, ic_lt, ic_eq, le_nl, ↓reduceIte, Nat.lt_irrefl, ri_ws, ri_wn, ri_as, ri_an, upd_s, upd_n, rp_wi, rp_wa, rl_wi, rl_wa, rl_wp, rl_wpa, rl_wl, rp_wl, ri_wl, rp_wd, ri_wd, in_rng, Int32.lt_irrefl, Nat.not_lt_zero, pk_nc, Nat.reduceEqDiff, Nat.succ_ne_self, Nat.one_ne_zero, Nat.add_left_cancel_iff, ri_wpa, ri_wp, QLaw_law_46, QLaw_law_47, QLaw_law_48, hs0, hs1, h1, h2, hth, h4, lgs, ic_add]
  · have hkn : ¬ ic k = ic 0 := fun y => hk0 (by rw [ic_eq (by omega) (by omega)] at y; exact y)
    refine ⟨G1, m2, N1, z1, some (.int (ic k)), some (.int v), l8, l9, ?_, hG, h5⟩
    simp (disch := first | assumption | (show (_ : Nat) < _; omega) | (show (_ : Nat) ≠ _; omega) | (show (_ : Nat) ≤ _; omega) | exact Or.inl rfl | exact Or.inr rfl) only [hG0, hG1, hG2, hF0, hF1, hA0, hA1, xL, xC, icL, Option.bind_some, Nat.le_add_right, Nat.le_refl, if_true, if_false, and_self, true_and, and_true, or_false, false_or, or_true, true_or, and_false, false_and, not_true_eq_false, not_false_eq_true, Nat.reduceAdd, Nat.reduceLeDiff, Nat.reduceLT, Option.toList_some, Option.toList_none, List.cons_append, List.nil_append, callK_ret, callR_ret, callK_thr, decide_true, Bool.true_and, xNr, bI0, bIT, bIF, ne_eq, Classical.not_not, not_false_eq_true, false_or, List.length_nil, icM, ic_lt, ic_eq, le_nl, ↓reduceIte, Nat.lt_irrefl, ri_ws, ri_wn, ri_as, ri_an, upd_s, upd_n, rp_wi, rp_wa, rl_wi, rl_wa, rl_wp, rl_wpa, rl_wl, rp_wl, ri_wl, rp_wd, ri_wd, in_rng, Int32.lt_irrefl, Nat.not_lt_zero, pk_nc, Nat.reduceEqDiff, Nat.succ_ne_self, Nat.one_ne_zero, Nat.add_left_cancel_iff, ri_wpa, ri_wp, QLaw_law_46, QLaw_law_47, QLaw_law_48, hs0, hs1, h1, h2, hth, hkn, lgs, ic_add]
theorem L_canRepair (hI : Inv n0 N0 z0 q G m N z) (hq : q ≤ 512) (hS : Sta n0 S0 G) (hs : Scr n0 s len sc G) (h7 : 7 * p + 7 ≤ len) : Lc n0 S0 N0 z0 q s p 1889 l6 l7 l8 l9 G m N z := by
  have k303 : kd 303 = 25 := rfl
  have k304 : kd 304 = 26 := rfl
  have k292 : kd 292 = 18 := rfl
  have hs0 := hs G m (fun _ _ => rfl)
  obtain ⟨k, G1, m1, N1, z1, v, m2, hk, h1, hG, h2, h3, h4, h5⟩ := W_canRepair (P_canRepair (S0 := S0) (w := (sc (7 * p + 1))) (job := (sc (7 * p + 2))) hI hq)
  have hs1 := hs G1 m1 hG
  have hth : Mt (n0, S0) 41 128 [.ref (n0 + 292)] (hp n0 G1 m2, N1, z1) = _ := m_thrown (n0 := n0) (S0 := S0) (G := G1) (N := N1) (z := z1) (m := m2) (d := 40)
  rw [h3] at hth
  by_cases hk0 : k = 0
  · subst hk0
    have h4 := h4 rfl
    refine ⟨G1, m2, N1, z1, some (.int (ic 0)), some (.int v), l8, l9, ?_, hG, h5⟩
    unfold bL at h4
    by_cases hv : v = ic 0
    · rw [if_pos hv] at h4
      simp (disch := first | assumption | (show (_ : Nat) < _; omega) | (show (_ : Nat) ≠ _; omega) | (show (_ : Nat) ≤ _; omega) | exact Or.inl rfl | exact Or.inr rfl) only [hG0, hG1, hG2, hF0, hF1, hA0, hA1, xL, xC, icL, Option.bind_some, Nat.le_add_right, Nat.le_refl, if_true, if_false, and_self, true_and, and_true, or_false, false_or, or_true, true_or, and_false, false_and, not_true_eq_false, not_false_eq_true, Nat.reduceAdd, Nat.reduceLeDiff, Nat.reduceLT, Option.toList_some, Option.toList_none, List.cons_append, List.nil_append, callK_ret, callR_ret, callK_thr, decide_true, Bool.true_and, xNr, bI0, bIT, bIF, ne_eq, Classical.not_not, not_false_eq_true, false_or, List.length_nil, icM, ic_lt, ic_eq, le_nl, ↓reduceIte, Nat.lt_irrefl, ri_ws, ri_wn, ri_as, ri_an, upd_s, upd_n, rp_wi, rp_wa, rl_wi, rl_wa, rl_wp, rl_wpa, rl_wl, rp_wl, ri_wl, rp_wd, ri_wd, in_rng, Int32.lt_irrefl, Nat.not_lt_zero, pk_nc, Nat.reduceEqDiff, Nat.succ_ne_self, Nat.one_ne_zero, Nat.add_left_cancel_iff, ri_wpa, ri_wp, QLaw_law_48, QLaw_law_49, QLaw_law_50, hs0, hs1, h1, h2, hth, h4, lgs, ic_add, hv]
    · rw [if_neg hv] at h4
      simp (disch := first | assumption | (show (_ : Nat) < _; omega) | (show (_ : Nat) ≠ _; omega) | (show (_ : Nat) ≤ _; omega) | exact Or.inl rfl | exact Or.inr rfl) only [hG0, hG1, hG2, hF0, hF1, hA0, hA1, xL, xC, icL, Option.bind_some, Nat.le_add_right, Nat.le_refl, if_true, if_false, and_self, true_and, and_true, or_false, false_or, or_true, true_or, and_false, false_and, not_true_eq_false, not_false_eq_true, Nat.reduceAdd, Nat.reduceLeDiff, Nat.reduceLT, Option.toList_some, Option.toList_none, List.cons_append, List.nil_append, callK_ret, callR_ret, callK_thr, decide_true, Bool.true_and, xNr, bI0, bIT, bIF, ne_eq, Classical.not_not, not_false_eq_true, false_or, List.length_nil, icM, ic_lt, ic_eq, le_nl, ↓reduceIte, Nat.lt_irrefl, ri_ws, ri_wn, ri_as, ri_an, upd_s, upd_n, rp_wi, rp_wa, rl_wi, rl_wa, rl_wp, rl_wpa, rl_wl, rp_wl, ri_wl, rp_wd, ri_wd, in_rng, Int32.lt_irrefl, Nat.not_lt_zero, pk_nc, Nat.reduceEqDiff, Nat.succ_ne_self, Nat.one_ne_zero, Nat.add_left_cancel_iff, ri_wpa, ri_wp, QLaw_law_48, QLaw_law_49, QLaw_law_50, hs0, hs1, h1, h2, hth, h4, lgs, ic_add, hv]
  · have hkn : ¬ ic k = ic 0 := fun y => hk0 (by rw [ic_eq (by omega) (by omega)] at y; exact y)
    refine ⟨G1, m2, N1, z1, some (.int (ic k)), some (.int v), l8, l9, ?_, hG, h5⟩
    simp (disch := first | assumption | (show (_ : Nat) < _; omega) | (show (_ : Nat) ≠ _; omega) | (show (_ : Nat) ≤ _; omega) | exact Or.inl rfl | exact Or.inr rfl) only [hG0, hG1, hG2, hF0, hF1, hA0, hA1, xL, xC, icL, Option.bind_some, Nat.le_add_right, Nat.le_refl, if_true, if_false, and_self, true_and, and_true, or_false, false_or, or_true, true_or, and_false, false_and, not_true_eq_false, not_false_eq_true, Nat.reduceAdd, Nat.reduceLeDiff, Nat.reduceLT, Option.toList_some, Option.toList_none, List.cons_append, List.nil_append, callK_ret, callR_ret, callK_thr, decide_true, Bool.true_and, xNr, bI0, bIT, bIF, ne_eq, Classical.not_not, not_false_eq_true, false_or, List.length_nil, icM, ic_lt, ic_eq, le_nl, ↓reduceIte, Nat.lt_irrefl, ri_ws, ri_wn, ri_as, ri_an, upd_s, upd_n, rp_wi, rp_wa, rl_wi, rl_wa, rl_wp, rl_wpa, rl_wl, rp_wl, ri_wl, rp_wd, ri_wd, in_rng, Int32.lt_irrefl, Nat.not_lt_zero, pk_nc, Nat.reduceEqDiff, Nat.succ_ne_self, Nat.one_ne_zero, Nat.add_left_cancel_iff, ri_wpa, ri_wp, QLaw_law_48, QLaw_law_49, QLaw_law_50, hs0, hs1, h1, h2, hth, hkn, lgs, ic_add]
theorem L_finish (hI : Inv n0 N0 z0 q G m N z) (hq : q ≤ 512) (hS : Sta n0 S0 G) (hs : Scr n0 s len sc G) (h7 : 7 * p + 7 ≤ len) : Lc n0 S0 N0 z0 q s p 1964 l6 l7 l8 l9 G m N z := by
  have k303 : kd 303 = 25 := rfl
  have k304 : kd 304 = 26 := rfl
  have k292 : kd 292 = 18 := rfl
  have hs0 := hs G m (fun _ _ => rfl)
  obtain ⟨k, G1, m1, N1, z1, v, m2, hk, h1, hG, h2, h3, h4, h5⟩ := W_finish (P_finish (S0 := S0) (w := (sc (7 * p + 1))) (job := (sc (7 * p + 2))) hI hq)
  have hs1 := hs G1 m1 hG
  have hth : Mt (n0, S0) 41 128 [.ref (n0 + 292)] (hp n0 G1 m2, N1, z1) = _ := m_thrown (n0 := n0) (S0 := S0) (G := G1) (N := N1) (z := z1) (m := m2) (d := 40)
  rw [h3] at hth
  by_cases hk0 : k = 0
  · subst hk0
    have h4 := h4 rfl
    refine ⟨G1, m2, N1, z1, some (.int (ic 0)), some (.int v), l8, l9, ?_, hG, h5⟩
    simp (disch := first | assumption | (show (_ : Nat) < _; omega) | (show (_ : Nat) ≠ _; omega) | (show (_ : Nat) ≤ _; omega) | exact Or.inl rfl | exact Or.inr rfl) only [hG0, hG1, hG2, hF0, hF1, hA0, hA1, xL, xC, icL, Option.bind_some, Nat.le_add_right, Nat.le_refl, if_true, if_false, and_self, true_and, and_true, or_false, false_or, or_true, true_or, and_false, false_and, not_true_eq_false, not_false_eq_true, Nat.reduceAdd, Nat.reduceLeDiff, Nat.reduceLT, Option.toList_some, Option.toList_none, List.cons_append, List.nil_append, callK_ret, callR_ret, callK_thr, decide_true, Bool.true_and, xNr, bI0, bIT, bIF, ne_eq, Classical.not_not, not_false_eq_true, false_or, List.length_nil, icM, ic_lt, ic_eq, le_nl, ↓reduceIte, Nat.lt_irrefl, ri_ws, ri_wn, ri_as, ri_an, upd_s, upd_n, rp_wi, rp_wa, rl_wi, rl_wa, rl_wp, rl_wpa, rl_wl, rp_wl, ri_wl, rp_wd, ri_wd, in_rng, Int32.lt_irrefl, Nat.not_lt_zero, pk_nc, Nat.reduceEqDiff, Nat.succ_ne_self, Nat.one_ne_zero, Nat.add_left_cancel_iff, ri_wpa, ri_wp, QLaw_law_50, QLaw_law_51, QLaw_law_52, hs0, hs1, h1, h2, hth, h4, lgs, ic_add]
  · have hkn : ¬ ic k = ic 0 := fun y => hk0 (by rw [ic_eq (by omega) (by omega)] at y; exact y)
    refine ⟨G1, m2, N1, z1, some (.int (ic k)), some (.int v), l8, l9, ?_, hG, h5⟩
    simp (disch := first | assumption | (show (_ : Nat) < _; omega) | (show (_ : Nat) ≠ _; omega) | (show (_ : Nat) ≤ _; omega) | exact Or.inl rfl | exact Or.inr rfl) only [hG0, hG1, hG2, hF0, hF1, hA0, hA1, xL, xC, icL, Option.bind_some, Nat.le_add_right, Nat.le_refl, if_true, if_false, and_self, true_and, and_true, or_false, false_or, or_true, true_or, and_false, false_and, not_true_eq_false, not_false_eq_true, Nat.reduceAdd, Nat.reduceLeDiff, Nat.reduceLT, Option.toList_some, Option.toList_none, List.cons_append, List.nil_append, callK_ret, callR_ret, callK_thr, decide_true, Bool.true_and, xNr, bI0, bIT, bIF, ne_eq, Classical.not_not, not_false_eq_true, false_or, List.length_nil, icM, ic_lt, ic_eq, le_nl, ↓reduceIte, Nat.lt_irrefl, ri_ws, ri_wn, ri_as, ri_an, upd_s, upd_n, rp_wi, rp_wa, rl_wi, rl_wa, rl_wp, rl_wpa, rl_wl, rp_wl, ri_wl, rp_wd, ri_wd, in_rng, Int32.lt_irrefl, Nat.not_lt_zero, pk_nc, Nat.reduceEqDiff, Nat.succ_ne_self, Nat.one_ne_zero, Nat.add_left_cancel_iff, ri_wpa, ri_wp, QLaw_law_50, QLaw_law_51, QLaw_law_52, hs0, hs1, h1, h2, hth, hkn, lgs, ic_add]
theorem L_fastestBarrow (hI : Inv n0 N0 z0 q G m N z) (hq : q ≤ 512) (hS : Sta n0 S0 G) (hs : Scr n0 s len sc G) (h7 : 7 * p + 7 ≤ len) : Lc n0 S0 N0 z0 q s p 2032 l6 l7 l8 l9 G m N z := by
  have k303 : kd 303 = 25 := rfl
  have k304 : kd 304 = 26 := rfl
  have k292 : kd 292 = 18 := rfl
  have hs0 := hs G m (fun _ _ => rfl)
  obtain ⟨k, G1, m1, N1, z1, v, m2, hk, h1, hG, h2, h3, h4, h5⟩ := W_fastestBarrow (P_fastestBarrow (S0 := S0) (job := (sc (7 * p + 1))) hI hq)
  have hs1 := hs G1 m1 hG
  have hth : Mt (n0, S0) 41 128 [.ref (n0 + 292)] (hp n0 G1 m2, N1, z1) = _ := m_thrown (n0 := n0) (S0 := S0) (G := G1) (N := N1) (z := z1) (m := m2) (d := 40)
  rw [h3] at hth
  by_cases hk0 : k = 0
  · subst hk0
    have h4 := h4 rfl
    refine ⟨G1, m2, N1, z1, some (.int (ic 0)), some (.int v), l8, l9, ?_, hG, h5⟩
    simp (disch := first | assumption | (show (_ : Nat) < _; omega) | (show (_ : Nat) ≠ _; omega) | (show (_ : Nat) ≤ _; omega) | exact Or.inl rfl | exact Or.inr rfl) only [hG0, hG1, hG2, hF0, hF1, hA0, hA1, xL, xC, icL, Option.bind_some, Nat.le_add_right, Nat.le_refl, if_true, if_false, and_self, true_and, and_true, or_false, false_or, or_true, true_or, and_false, false_and, not_true_eq_false, not_false_eq_true, Nat.reduceAdd, Nat.reduceLeDiff, Nat.reduceLT, Option.toList_some, Option.toList_none, List.cons_append, List.nil_append, callK_ret, callR_ret, callK_thr, decide_true, Bool.true_and, xNr, bI0, bIT, bIF, ne_eq, Classical.not_not, not_false_eq_true, false_or, List.length_nil, icM, ic_lt, ic_eq, le_nl, ↓reduceIte, Nat.lt_irrefl, ri_ws, ri_wn, ri_as, ri_an, upd_s, upd_n, rp_wi, rp_wa, rl_wi, rl_wa, rl_wp, rl_wpa, rl_wl, rp_wl, ri_wl, rp_wd, ri_wd, in_rng, Int32.lt_irrefl, Nat.not_lt_zero, pk_nc, Nat.reduceEqDiff, Nat.succ_ne_self, Nat.one_ne_zero, Nat.add_left_cancel_iff, ri_wpa, ri_wp, QLaw_law_52, QLaw_law_53, hs0, hs1, h1, h2, hth, h4, lgs, ic_add]
  · have hkn : ¬ ic k = ic 0 := fun y => hk0 (by rw [ic_eq (by omega) (by omega)] at y; exact y)
    refine ⟨G1, m2, N1, z1, some (.int (ic k)), some (.int v), l8, l9, ?_, hG, h5⟩
    simp (disch := first | assumption | (show (_ : Nat) < _; omega) | (show (_ : Nat) ≠ _; omega) | (show (_ : Nat) ≤ _; omega) | exact Or.inl rfl | exact Or.inr rfl) only [hG0, hG1, hG2, hF0, hF1, hA0, hA1, xL, xC, icL, Option.bind_some, Nat.le_add_right, Nat.le_refl, if_true, if_false, and_self, true_and, and_true, or_false, false_or, or_true, true_or, and_false, false_and, not_true_eq_false, not_false_eq_true, Nat.reduceAdd, Nat.reduceLeDiff, Nat.reduceLT, Option.toList_some, Option.toList_none, List.cons_append, List.nil_append, callK_ret, callR_ret, callK_thr, decide_true, Bool.true_and, xNr, bI0, bIT, bIF, ne_eq, Classical.not_not, not_false_eq_true, false_or, List.length_nil, icM, ic_lt, ic_eq, le_nl, ↓reduceIte, Nat.lt_irrefl, ri_ws, ri_wn, ri_as, ri_an, upd_s, upd_n, rp_wi, rp_wa, rl_wi, rl_wa, rl_wp, rl_wpa, rl_wl, rp_wl, ri_wl, rp_wd, ri_wd, in_rng, Int32.lt_irrefl, Nat.not_lt_zero, pk_nc, Nat.reduceEqDiff, Nat.succ_ne_self, Nat.one_ne_zero, Nat.add_left_cancel_iff, ri_wpa, ri_wp, QLaw_law_52, QLaw_law_53, hs0, hs1, h1, h2, hth, hkn, lgs, ic_add]
theorem L_bestLateness (hI : Inv n0 N0 z0 q G m N z) (hq : q ≤ 512) (hS : Sta n0 S0 G) (hs : Scr n0 s len sc G) (h7 : 7 * p + 7 ≤ len) : Lc n0 S0 N0 z0 q s p 2088 l6 l7 l8 l9 G m N z := by
  have k303 : kd 303 = 25 := rfl
  have k304 : kd 304 = 26 := rfl
  have k292 : kd 292 = 18 := rfl
  have hs0 := hs G m (fun _ _ => rfl)
  obtain ⟨k, G1, m1, N1, z1, v, m2, hk, h1, hG, h2, h3, h4, h5⟩ := W_bestLateness (P_bestLateness (S0 := S0) (w := (sc (7 * p + 1))) hI hq)
  have hs1 := hs G1 m1 hG
  have hth : Mt (n0, S0) 41 128 [.ref (n0 + 292)] (hp n0 G1 m2, N1, z1) = _ := m_thrown (n0 := n0) (S0 := S0) (G := G1) (N := N1) (z := z1) (m := m2) (d := 40)
  rw [h3] at hth
  by_cases hk0 : k = 0
  · subst hk0
    have h4 := h4 rfl
    refine ⟨G1, m2, N1, z1, some (.int (ic 0)), some (.int v), l8, l9, ?_, hG, h5⟩
    simp (disch := first | assumption | (show (_ : Nat) < _; omega) | (show (_ : Nat) ≠ _; omega) | (show (_ : Nat) ≤ _; omega) | exact Or.inl rfl | exact Or.inr rfl) only [hG0, hG1, hG2, hF0, hF1, hA0, hA1, xL, xC, icL, Option.bind_some, Nat.le_add_right, Nat.le_refl, if_true, if_false, and_self, true_and, and_true, or_false, false_or, or_true, true_or, and_false, false_and, not_true_eq_false, not_false_eq_true, Nat.reduceAdd, Nat.reduceLeDiff, Nat.reduceLT, Option.toList_some, Option.toList_none, List.cons_append, List.nil_append, callK_ret, callR_ret, callK_thr, decide_true, Bool.true_and, xNr, bI0, bIT, bIF, ne_eq, Classical.not_not, not_false_eq_true, false_or, List.length_nil, icM, ic_lt, ic_eq, le_nl, ↓reduceIte, Nat.lt_irrefl, ri_ws, ri_wn, ri_as, ri_an, upd_s, upd_n, rp_wi, rp_wa, rl_wi, rl_wa, rl_wp, rl_wpa, rl_wl, rp_wl, ri_wl, rp_wd, ri_wd, in_rng, Int32.lt_irrefl, Nat.not_lt_zero, pk_nc, Nat.reduceEqDiff, Nat.succ_ne_self, Nat.one_ne_zero, Nat.add_left_cancel_iff, ri_wpa, ri_wp, QLaw_law_53, QLaw_law_54, QLaw_law_55, hs0, hs1, h1, h2, hth, h4, lgs, ic_add]
  · have hkn : ¬ ic k = ic 0 := fun y => hk0 (by rw [ic_eq (by omega) (by omega)] at y; exact y)
    refine ⟨G1, m2, N1, z1, some (.int (ic k)), some (.int v), l8, l9, ?_, hG, h5⟩
    simp (disch := first | assumption | (show (_ : Nat) < _; omega) | (show (_ : Nat) ≠ _; omega) | (show (_ : Nat) ≤ _; omega) | exact Or.inl rfl | exact Or.inr rfl) only [hG0, hG1, hG2, hF0, hF1, hA0, hA1, xL, xC, icL, Option.bind_some, Nat.le_add_right, Nat.le_refl, if_true, if_false, and_self, true_and, and_true, or_false, false_or, or_true, true_or, and_false, false_and, not_true_eq_false, not_false_eq_true, Nat.reduceAdd, Nat.reduceLeDiff, Nat.reduceLT, Option.toList_some, Option.toList_none, List.cons_append, List.nil_append, callK_ret, callR_ret, callK_thr, decide_true, Bool.true_and, xNr, bI0, bIT, bIF, ne_eq, Classical.not_not, not_false_eq_true, false_or, List.length_nil, icM, ic_lt, ic_eq, le_nl, ↓reduceIte, Nat.lt_irrefl, ri_ws, ri_wn, ri_as, ri_an, upd_s, upd_n, rp_wi, rp_wa, rl_wi, rl_wa, rl_wp, rl_wpa, rl_wl, rp_wl, ri_wl, rp_wd, ri_wd, in_rng, Int32.lt_irrefl, Nat.not_lt_zero, pk_nc, Nat.reduceEqDiff, Nat.succ_ne_self, Nat.one_ne_zero, Nat.add_left_cancel_iff, ri_wpa, ri_wp, QLaw_law_53, QLaw_law_54, QLaw_law_55, hs0, hs1, h1, h2, hth, hkn, lgs, ic_add]
theorem L_bestLatenessByOrders (hI : Inv n0 N0 z0 q G m N z) (hq : q ≤ 512) (hS : Sta n0 S0 G) (hs : Scr n0 s len sc G) (h7 : 7 * p + 7 ≤ len) : Lc n0 S0 N0 z0 q s p 2144 l6 l7 l8 l9 G m N z := by
  have k303 : kd 303 = 25 := rfl
  have k304 : kd 304 = 26 := rfl
  have k292 : kd 292 = 18 := rfl
  have hs0 := hs G m (fun _ _ => rfl)
  obtain ⟨k, G1, m1, N1, z1, v, m2, hk, h1, hG, h2, h3, h4, h5⟩ := W_bestLatenessByOrders (P_bestLatenessByOrders (S0 := S0) (w := (sc (7 * p + 1))) hI hq)
  have hs1 := hs G1 m1 hG
  have hth : Mt (n0, S0) 41 128 [.ref (n0 + 292)] (hp n0 G1 m2, N1, z1) = _ := m_thrown (n0 := n0) (S0 := S0) (G := G1) (N := N1) (z := z1) (m := m2) (d := 40)
  rw [h3] at hth
  by_cases hk0 : k = 0
  · subst hk0
    have h4 := h4 rfl
    refine ⟨G1, m2, N1, z1, some (.int (ic 0)), some (.int v), l8, l9, ?_, hG, h5⟩
    simp (disch := first | assumption | (show (_ : Nat) < _; omega) | (show (_ : Nat) ≠ _; omega) | (show (_ : Nat) ≤ _; omega) | exact Or.inl rfl | exact Or.inr rfl) only [hG0, hG1, hG2, hF0, hF1, hA0, hA1, xL, xC, icL, Option.bind_some, Nat.le_add_right, Nat.le_refl, if_true, if_false, and_self, true_and, and_true, or_false, false_or, or_true, true_or, and_false, false_and, not_true_eq_false, not_false_eq_true, Nat.reduceAdd, Nat.reduceLeDiff, Nat.reduceLT, Option.toList_some, Option.toList_none, List.cons_append, List.nil_append, callK_ret, callR_ret, callK_thr, decide_true, Bool.true_and, xNr, bI0, bIT, bIF, ne_eq, Classical.not_not, not_false_eq_true, false_or, List.length_nil, icM, ic_lt, ic_eq, le_nl, ↓reduceIte, Nat.lt_irrefl, ri_ws, ri_wn, ri_as, ri_an, upd_s, upd_n, rp_wi, rp_wa, rl_wi, rl_wa, rl_wp, rl_wpa, rl_wl, rp_wl, ri_wl, rp_wd, ri_wd, in_rng, Int32.lt_irrefl, Nat.not_lt_zero, pk_nc, Nat.reduceEqDiff, Nat.succ_ne_self, Nat.one_ne_zero, Nat.add_left_cancel_iff, ri_wpa, ri_wp, QLaw_law_55, QLaw_law_56, hs0, hs1, h1, h2, hth, h4, lgs, ic_add]
  · have hkn : ¬ ic k = ic 0 := fun y => hk0 (by rw [ic_eq (by omega) (by omega)] at y; exact y)
    refine ⟨G1, m2, N1, z1, some (.int (ic k)), some (.int v), l8, l9, ?_, hG, h5⟩
    simp (disch := first | assumption | (show (_ : Nat) < _; omega) | (show (_ : Nat) ≠ _; omega) | (show (_ : Nat) ≤ _; omega) | exact Or.inl rfl | exact Or.inr rfl) only [hG0, hG1, hG2, hF0, hF1, hA0, hA1, xL, xC, icL, Option.bind_some, Nat.le_add_right, Nat.le_refl, if_true, if_false, and_self, true_and, and_true, or_false, false_or, or_true, true_or, and_false, false_and, not_true_eq_false, not_false_eq_true, Nat.reduceAdd, Nat.reduceLeDiff, Nat.reduceLT, Option.toList_some, Option.toList_none, List.cons_append, List.nil_append, callK_ret, callR_ret, callK_thr, decide_true, Bool.true_and, xNr, bI0, bIT, bIF, ne_eq, Classical.not_not, not_false_eq_true, false_or, List.length_nil, icM, ic_lt, ic_eq, le_nl, ↓reduceIte, Nat.lt_irrefl, ri_ws, ri_wn, ri_as, ri_an, upd_s, upd_n, rp_wi, rp_wa, rl_wi, rl_wa, rl_wp, rl_wpa, rl_wl, rp_wl, ri_wl, rp_wd, ri_wd, in_rng, Int32.lt_irrefl, Nat.not_lt_zero, pk_nc, Nat.reduceEqDiff, Nat.succ_ne_self, Nat.one_ne_zero, Nat.add_left_cancel_iff, ri_wpa, ri_wp, QLaw_law_55, QLaw_law_56, hs0, hs1, h1, h2, hth, hkn, lgs, ic_add]
theorem L_planned (hI : Inv n0 N0 z0 q G m N z) (hq : q ≤ 512) (hS : Sta n0 S0 G) (hs : Scr n0 s len sc G) (h7 : 7 * p + 7 ≤ len) : Lc n0 S0 N0 z0 q s p 2200 l6 l7 l8 l9 G m N z := by
  have k303 : kd 303 = 25 := rfl
  have k304 : kd 304 = 26 := rfl
  have k292 : kd 292 = 18 := rfl
  have hs0 := hs G m (fun _ _ => rfl)
  obtain ⟨k, G1, m1, N1, z1, v, m2, hk, h1, hG, h2, h3, h4, h5⟩ := W_planned (P_planned (S0 := S0) (w := (sc (7 * p + 1))) (i := (sc (7 * p + 2))) hI hq)
  have hs1 := hs G1 m1 hG
  have hth : Mt (n0, S0) 41 128 [.ref (n0 + 292)] (hp n0 G1 m2, N1, z1) = _ := m_thrown (n0 := n0) (S0 := S0) (G := G1) (N := N1) (z := z1) (m := m2) (d := 40)
  rw [h3] at hth
  by_cases hk0 : k = 0
  · subst hk0
    have h4 := h4 rfl
    refine ⟨G1, m2, N1, z1, some (.int (ic 0)), some (.int v), l8, l9, ?_, hG, h5⟩
    simp (disch := first | assumption | (show (_ : Nat) < _; omega) | (show (_ : Nat) ≠ _; omega) | (show (_ : Nat) ≤ _; omega) | exact Or.inl rfl | exact Or.inr rfl) only [hG0, hG1, hG2, hF0, hF1, hA0, hA1, xL, xC, icL, Option.bind_some, Nat.le_add_right, Nat.le_refl, if_true, if_false, and_self, true_and, and_true, or_false, false_or, or_true, true_or, and_false, false_and, not_true_eq_false, not_false_eq_true, Nat.reduceAdd, Nat.reduceLeDiff, Nat.reduceLT, Option.toList_some, Option.toList_none, List.cons_append, List.nil_append, callK_ret, callR_ret, callK_thr, decide_true, Bool.true_and, xNr, bI0, bIT, bIF, ne_eq, Classical.not_not, not_false_eq_true, false_or, List.length_nil, icM, ic_lt, ic_eq, le_nl, ↓reduceIte, Nat.lt_irrefl, ri_ws, ri_wn, ri_as, ri_an, upd_s, upd_n, rp_wi, rp_wa, rl_wi, rl_wa, rl_wp, rl_wpa, rl_wl, rp_wl, ri_wl, rp_wd, ri_wd, in_rng, Int32.lt_irrefl, Nat.not_lt_zero, pk_nc, Nat.reduceEqDiff, Nat.succ_ne_self, Nat.one_ne_zero, Nat.add_left_cancel_iff, ri_wpa, ri_wp, QLaw_law_56, QLaw_law_57, QLaw_law_58, hs0, hs1, h1, h2, hth, h4, lgs, ic_add]
  · have hkn : ¬ ic k = ic 0 := fun y => hk0 (by rw [ic_eq (by omega) (by omega)] at y; exact y)
    refine ⟨G1, m2, N1, z1, some (.int (ic k)), some (.int v), l8, l9, ?_, hG, h5⟩
    simp (disch := first | assumption | (show (_ : Nat) < _; omega) | (show (_ : Nat) ≠ _; omega) | (show (_ : Nat) ≤ _; omega) | exact Or.inl rfl | exact Or.inr rfl) only [hG0, hG1, hG2, hF0, hF1, hA0, hA1, xL, xC, icL, Option.bind_some, Nat.le_add_right, Nat.le_refl, if_true, if_false, and_self, true_and, and_true, or_false, false_or, or_true, true_or, and_false, false_and, not_true_eq_false, not_false_eq_true, Nat.reduceAdd, Nat.reduceLeDiff, Nat.reduceLT, Option.toList_some, Option.toList_none, List.cons_append, List.nil_append, callK_ret, callR_ret, callK_thr, decide_true, Bool.true_and, xNr, bI0, bIT, bIF, ne_eq, Classical.not_not, not_false_eq_true, false_or, List.length_nil, icM, ic_lt, ic_eq, le_nl, ↓reduceIte, Nat.lt_irrefl, ri_ws, ri_wn, ri_as, ri_an, upd_s, upd_n, rp_wi, rp_wa, rl_wi, rl_wa, rl_wp, rl_wpa, rl_wl, rp_wl, ri_wl, rp_wd, ri_wd, in_rng, Int32.lt_irrefl, Nat.not_lt_zero, pk_nc, Nat.reduceEqDiff, Nat.succ_ne_self, Nat.one_ne_zero, Nat.add_left_cancel_iff, ri_wpa, ri_wp, QLaw_law_56, QLaw_law_57, QLaw_law_58, hs0, hs1, h1, h2, hth, hkn, lgs, ic_add]
theorem L_earnings (hI : Inv n0 N0 z0 q G m N z) (hq : q ≤ 512) (hS : Sta n0 S0 G) (hs : Scr n0 s len sc G) (h7 : 7 * p + 7 ≤ len) : Lc n0 S0 N0 z0 q s p 2268 l6 l7 l8 l9 G m N z := by
  have k303 : kd 303 = 25 := rfl
  have k304 : kd 304 = 26 := rfl
  have k292 : kd 292 = 18 := rfl
  have hs0 := hs G m (fun _ _ => rfl)
  obtain ⟨k, G1, m1, N1, z1, v, m2, hk, h1, hG, h2, h3, h4, h5⟩ := W_earnings (P_earnings (S0 := S0) (w := (sc (7 * p + 1))) hI hq)
  have hs1 := hs G1 m1 hG
  have hth : Mt (n0, S0) 41 128 [.ref (n0 + 292)] (hp n0 G1 m2, N1, z1) = _ := m_thrown (n0 := n0) (S0 := S0) (G := G1) (N := N1) (z := z1) (m := m2) (d := 40)
  rw [h3] at hth
  by_cases hk0 : k = 0
  · subst hk0
    have h4 := h4 rfl
    refine ⟨G1, m2, N1, z1, some (.int (ic 0)), some (.int v), l8, l9, ?_, hG, h5⟩
    simp (disch := first | assumption | (show (_ : Nat) < _; omega) | (show (_ : Nat) ≠ _; omega) | (show (_ : Nat) ≤ _; omega) | exact Or.inl rfl | exact Or.inr rfl) only [hG0, hG1, hG2, hF0, hF1, hA0, hA1, xL, xC, icL, Option.bind_some, Nat.le_add_right, Nat.le_refl, if_true, if_false, and_self, true_and, and_true, or_false, false_or, or_true, true_or, and_false, false_and, not_true_eq_false, not_false_eq_true, Nat.reduceAdd, Nat.reduceLeDiff, Nat.reduceLT, Option.toList_some, Option.toList_none, List.cons_append, List.nil_append, callK_ret, callR_ret, callK_thr, decide_true, Bool.true_and, xNr, bI0, bIT, bIF, ne_eq, Classical.not_not, not_false_eq_true, false_or, List.length_nil, icM, ic_lt, ic_eq, le_nl, ↓reduceIte, Nat.lt_irrefl, ri_ws, ri_wn, ri_as, ri_an, upd_s, upd_n, rp_wi, rp_wa, rl_wi, rl_wa, rl_wp, rl_wpa, rl_wl, rp_wl, ri_wl, rp_wd, ri_wd, in_rng, Int32.lt_irrefl, Nat.not_lt_zero, pk_nc, Nat.reduceEqDiff, Nat.succ_ne_self, Nat.one_ne_zero, Nat.add_left_cancel_iff, ri_wpa, ri_wp, QLaw_law_58, QLaw_law_59, QLaw_law_60, hs0, hs1, h1, h2, hth, h4, lgs, ic_add]
  · have hkn : ¬ ic k = ic 0 := fun y => hk0 (by rw [ic_eq (by omega) (by omega)] at y; exact y)
    refine ⟨G1, m2, N1, z1, some (.int (ic k)), some (.int v), l8, l9, ?_, hG, h5⟩
    simp (disch := first | assumption | (show (_ : Nat) < _; omega) | (show (_ : Nat) ≠ _; omega) | (show (_ : Nat) ≤ _; omega) | exact Or.inl rfl | exact Or.inr rfl) only [hG0, hG1, hG2, hF0, hF1, hA0, hA1, xL, xC, icL, Option.bind_some, Nat.le_add_right, Nat.le_refl, if_true, if_false, and_self, true_and, and_true, or_false, false_or, or_true, true_or, and_false, false_and, not_true_eq_false, not_false_eq_true, Nat.reduceAdd, Nat.reduceLeDiff, Nat.reduceLT, Option.toList_some, Option.toList_none, List.cons_append, List.nil_append, callK_ret, callR_ret, callK_thr, decide_true, Bool.true_and, xNr, bI0, bIT, bIF, ne_eq, Classical.not_not, not_false_eq_true, false_or, List.length_nil, icM, ic_lt, ic_eq, le_nl, ↓reduceIte, Nat.lt_irrefl, ri_ws, ri_wn, ri_as, ri_an, upd_s, upd_n, rp_wi, rp_wa, rl_wi, rl_wa, rl_wp, rl_wpa, rl_wl, rp_wl, ri_wl, rp_wd, ri_wd, in_rng, Int32.lt_irrefl, Nat.not_lt_zero, pk_nc, Nat.reduceEqDiff, Nat.succ_ne_self, Nat.one_ne_zero, Nat.add_left_cancel_iff, ri_wpa, ri_wp, QLaw_law_58, QLaw_law_59, QLaw_law_60, hs0, hs1, h1, h2, hth, hkn, lgs, ic_add]
end L2b
