/-! the cases of the law's switch; written by wip/whole/gen_l2.py, expanded by px.py out of l4.src -/
section L2c
variable {n0 N z N0 z0 q s p len : Nat} {S0 : Nat → Value} {G : sH} {m : mm} {sc : Nat → Int32} {l6 l7 l8 l9 : Option Value}
theorem W_meanNo (h1 : Mt (n0, S0) 40 114 [.ref n0] (hp n0 G m, N, z) = some (.inr "java/lang/ArithmeticException", (hp n0 G m, N + 1, z + 6))) : Mt (n0, S0) 41 279 [.ref n0, .ref (n0 + 304)] (hp n0 G m, N, z) = oI n0 G m (N + 1) (z + 6) (ic 1) := by
  have k304 : kd 304 = 26 := rfl
  have hb : isOb (hp n0 G m) n0 7 = true := isOb0
  have hcc : cats [.int (ic 0), .ref (n0 + 304)] ≤ 8 := Nat.le_of_ble_eq_true rfl
  rw [NLaw_meanLateness]
  simp (disch := first | assumption | (show (_ : Nat) < _; omega) | (show (_ : Nat) ≠ _; omega) | (show (_ : Nat) ≤ _; omega) | exact Or.inl rfl | exact Or.inr rfl) only [hG0, hG1, hG2, hF0, hF1, hA0, hA1, xL, xC, icL, Option.bind_some, Nat.le_add_right, Nat.le_refl, if_true, if_false, and_self, true_and, and_true, or_false, false_or, or_true, true_or, and_false, false_and, not_true_eq_false, not_false_eq_true, Nat.reduceAdd, Nat.reduceLeDiff, Nat.reduceLT, Option.toList_some, Option.toList_none, List.cons_append, List.nil_append, callK_ret, callR_ret, callK_thr, decide_true, Bool.true_and, xNr, bI0, bIT, bIF, ne_eq, Classical.not_not, not_false_eq_true, false_or, List.length_nil, icM, ic_lt, ic_eq, le_nl, ↓reduceIte, Nat.lt_irrefl, ri_ws, ri_wn, ri_as, ri_an, upd_s, upd_n, rp_wi, rp_wa, rl_wi, rl_wa, rl_wp, rl_wpa, rl_wl, rp_wl, ri_wl, rp_wd, ri_wd, in_rng, Int32.lt_irrefl, Nat.not_lt_zero, pk_nc, Nat.reduceEqDiff, Nat.succ_ne_self, Nat.one_ne_zero, Nat.add_left_cancel_iff, ri_wpa, ri_wp, QLaw_meanLateness_0, h1, Xh_meanLateness_1]
theorem W_meanOk {v : UInt64} (h1 : Mt (n0, S0) 40 114 [.ref n0] (hp n0 G m, N, z) = some (.inl (some (.double v)), (hp n0 G m, N, z))) : Mt (n0, S0) 41 279 [.ref n0, .ref (n0 + 304)] (hp n0 G m, N, z) = oI n0 G (wd m 304 0 v) N z (ic 0) := by
  have k304 : kd 304 = 26 := rfl
  have hb : isOb (hp n0 G m) n0 7 = true := isOb0
  have hcc : cats [.int (ic 0), .ref (n0 + 304)] ≤ 8 := Nat.le_of_ble_eq_true rfl
  rw [NLaw_meanLateness]
  simp (disch := first | assumption | (show (_ : Nat) < _; omega) | (show (_ : Nat) ≠ _; omega) | (show (_ : Nat) ≤ _; omega) | exact Or.inl rfl | exact Or.inr rfl) only [hG0, hG1, hG2, hF0, hF1, hA0, hA1, xL, xC, icL, Option.bind_some, Nat.le_add_right, Nat.le_refl, if_true, if_false, and_self, true_and, and_true, or_false, false_or, or_true, true_or, and_false, false_and, not_true_eq_false, not_false_eq_true, Nat.reduceAdd, Nat.reduceLeDiff, Nat.reduceLT, Option.toList_some, Option.toList_none, List.cons_append, List.nil_append, callK_ret, callR_ret, callK_thr, decide_true, Bool.true_and, xNr, bI0, bIT, bIF, ne_eq, Classical.not_not, not_false_eq_true, false_or, List.length_nil, icM, ic_lt, ic_eq, le_nl, ↓reduceIte, Nat.lt_irrefl, ri_ws, ri_wn, ri_as, ri_an, upd_s, upd_n, rp_wi, rp_wa, rl_wi, rl_wa, rl_wp, rl_wpa, rl_wl, rp_wl, ri_wl, rp_wd, ri_wd, in_rng, Int32.lt_irrefl, Nat.not_lt_zero, pk_nc, Nat.reduceEqDiff, Nat.succ_ne_self, Nat.one_ne_zero, Nat.add_left_cancel_iff, ri_wpa, ri_wp, QLaw_meanLateness_0, h1, Xr_meanLateness]
theorem dcs {v : UInt64} (h : FP.Core.val64 v ≠ .nan) : Op.cmpValue (FP.dcmp v v) .l = 0 := by
  have e : FP.dcmp v v = some .eq := FP.Core.dcmp_self h
  rw [e]
  rfl
theorem shs {k : Nat} (h : k ≤ 6) : (FP.f2d (FP.fdiv (FP.i2f (ic k)) 1086324736) &&& 0x7fffffffffffffff ≤ 0x7ff0000000000000) ∧ Op.cmpValue (FP.dcmp (FP.f2d (FP.fdiv (FP.i2f (ic k)) 1086324736)) (FP.f2d (FP.fdiv (FP.i2f (ic k)) 1086324736))) .l = 0 := by
  rcases (by omega : k = 0 ∨ k = 1 ∨ k = 2 ∨ k = 3 ∨ k = 4 ∨ k = 5 ∨ k = 6) with rfl | rfl | rfl | rfl | rfl | rfl | rfl <;> decide +kernel
theorem L_totalEarnings (hI : Inv n0 N0 z0 q G m N z) (hq : q ≤ 512) (hS : Sta n0 S0 G) (hs : Scr n0 s len sc G) (h7 : 7 * p + 7 ≤ len) : Lc n0 S0 N0 z0 q s p 2324 l6 l7 l8 l9 G m N z := by
  have k303 : kd 303 = 25 := rfl
  have k304 : kd 304 = 26 := rfl
  have k292 : kd 292 = 18 := rfl
  have hs0 := hs G m (fun _ _ => rfl)
  obtain ⟨V, m1, m2, h1, h2, h5⟩ := Q_total (n0 := n0) (S0 := S0) hI hq
  have hs1 := hs G m1 (fun _ _ => rfl)
  refine ⟨G, m2, N, z, l6, l7, l8, l9, ?_, fun _ _ => rfl, h5⟩
  simp (disch := first | assumption | (show (_ : Nat) < _; omega) | (show (_ : Nat) ≠ _; omega) | (show (_ : Nat) ≤ _; omega) | exact Or.inl rfl | exact Or.inr rfl) only [hG0, hG1, hG2, hF0, hF1, hA0, hA1, xL, xC, icL, Option.bind_some, Nat.le_add_right, Nat.le_refl, if_true, if_false, and_self, true_and, and_true, or_false, false_or, or_true, true_or, and_false, false_and, not_true_eq_false, not_false_eq_true, Nat.reduceAdd, Nat.reduceLeDiff, Nat.reduceLT, Option.toList_some, Option.toList_none, List.cons_append, List.nil_append, callK_ret, callR_ret, callK_thr, decide_true, Bool.true_and, xNr, bI0, bIT, bIF, ne_eq, Classical.not_not, not_false_eq_true, false_or, List.length_nil, icM, ic_lt, ic_eq, le_nl, ↓reduceIte, Nat.lt_irrefl, ri_ws, ri_wn, ri_as, ri_an, upd_s, upd_n, rp_wi, rp_wa, rl_wi, rl_wa, rl_wp, rl_wpa, rl_wl, rp_wl, ri_wl, rp_wd, ri_wd, in_rng, Int32.lt_irrefl, Nat.not_lt_zero, pk_nc, Nat.reduceEqDiff, Nat.succ_ne_self, Nat.one_ne_zero, Nat.add_left_cancel_iff, ri_wpa, ri_wp, QLaw_law_60, hs0, hs1, h1, h2, lgs, ic_add]
theorem L_totalEarningsByHours (hI : Inv n0 N0 z0 q G m N z) (hq : q ≤ 512) (hS : Sta n0 S0 G) (hs : Scr n0 s len sc G) (h7 : 7 * p + 7 ≤ len) : Lc n0 S0 N0 z0 q s p 2338 l6 l7 l8 l9 G m N z := by
  have k303 : kd 303 = 25 := rfl
  have k304 : kd 304 = 26 := rfl
  have k292 : kd 292 = 18 := rfl
  have hs0 := hs G m (fun _ _ => rfl)
  obtain ⟨V, m1, m2, h1, h2, h5⟩ := Q_byHours (n0 := n0) (S0 := S0) hI hq
  have hs1 := hs G m1 (fun _ _ => rfl)
  refine ⟨G, m2, N, z, l6, l7, l8, l9, ?_, fun _ _ => rfl, h5⟩
  simp (disch := first | assumption | (show (_ : Nat) < _; omega) | (show (_ : Nat) ≠ _; omega) | (show (_ : Nat) ≤ _; omega) | exact Or.inl rfl | exact Or.inr rfl) only [hG0, hG1, hG2, hF0, hF1, hA0, hA1, xL, xC, icL, Option.bind_some, Nat.le_add_right, Nat.le_refl, if_true, if_false, and_self, true_and, and_true, or_false, false_or, or_true, true_or, and_false, false_and, not_true_eq_false, not_false_eq_true, Nat.reduceAdd, Nat.reduceLeDiff, Nat.reduceLT, Option.toList_some, Option.toList_none, List.cons_append, List.nil_append, callK_ret, callR_ret, callK_thr, decide_true, Bool.true_and, xNr, bI0, bIT, bIF, ne_eq, Classical.not_not, not_false_eq_true, false_or, List.length_nil, icM, ic_lt, ic_eq, le_nl, ↓reduceIte, Nat.lt_irrefl, ri_ws, ri_wn, ri_as, ri_an, upd_s, upd_n, rp_wi, rp_wa, rl_wi, rl_wa, rl_wp, rl_wpa, rl_wl, rp_wl, ri_wl, rp_wd, ri_wd, in_rng, Int32.lt_irrefl, Nat.not_lt_zero, pk_nc, Nat.reduceEqDiff, Nat.succ_ne_self, Nat.one_ne_zero, Nat.add_left_cancel_iff, ri_wpa, ri_wp, QLaw_law_60, QLaw_law_61, hs0, hs1, h1, h2, lgs, ic_add]
theorem L_repaired (hI : Inv n0 N0 z0 q G m N z) (hq : q ≤ 512) (hS : Sta n0 S0 G) (hs : Scr n0 s len sc G) (h7 : 7 * p + 7 ≤ len) : Lc n0 S0 N0 z0 q s p 2352 l6 l7 l8 l9 G m N z := by
  have k303 : kd 303 = 25 := rfl
  have k304 : kd 304 = 26 := rfl
  have k292 : kd 292 = 18 := rfl
  have hs0 := hs G m (fun _ _ => rfl)
  obtain ⟨m1, m2, h1, h2, h5⟩ := Q_repaired (n0 := n0) (S0 := S0) hI
  have hs1 := hs G m1 (fun _ _ => rfl)
  refine ⟨G, m2, N, z, l6, l7, l8, l9, ?_, fun _ _ => rfl, h5⟩
  simp (disch := first | assumption | (show (_ : Nat) < _; omega) | (show (_ : Nat) ≠ _; omega) | (show (_ : Nat) ≤ _; omega) | exact Or.inl rfl | exact Or.inr rfl) only [hG0, hG1, hG2, hF0, hF1, hA0, hA1, xL, xC, icL, Option.bind_some, Nat.le_add_right, Nat.le_refl, if_true, if_false, and_self, true_and, and_true, or_false, false_or, or_true, true_or, and_false, false_and, not_true_eq_false, not_false_eq_true, Nat.reduceAdd, Nat.reduceLeDiff, Nat.reduceLT, Option.toList_some, Option.toList_none, List.cons_append, List.nil_append, callK_ret, callR_ret, callK_thr, decide_true, Bool.true_and, xNr, bI0, bIT, bIF, ne_eq, Classical.not_not, not_false_eq_true, false_or, List.length_nil, icM, ic_lt, ic_eq, le_nl, ↓reduceIte, Nat.lt_irrefl, ri_ws, ri_wn, ri_as, ri_an, upd_s, upd_n, rp_wi, rp_wa, rl_wi, rl_wa, rl_wp, rl_wpa, rl_wl, rp_wl, ri_wl, rp_wd, ri_wd, in_rng, Int32.lt_irrefl, Nat.not_lt_zero, pk_nc, Nat.reduceEqDiff, Nat.succ_ne_self, Nat.one_ne_zero, Nat.add_left_cancel_iff, ri_wpa, ri_wp, QLaw_law_61, hs0, hs1, h1, h2, lgs, ic_add]
theorem L_meanLateness (hI : Inv n0 N0 z0 q G m N z) (hq : q ≤ 512) (hS : Sta n0 S0 G) (hs : Scr n0 s len sc G) (h7 : 7 * p + 7 ≤ len) : Lc n0 S0 N0 z0 q s p 2365 l6 l7 l8 l9 G m N z := by
  have k303 : kd 303 = 25 := rfl
  have k304 : kd 304 = 26 := rfl
  have k292 : kd 292 = 18 := rfl
  have hs0 := hs G m (fun _ _ => rfl)
  rcases P_mean (S0 := S0) hI hq with ⟨m2, h1, h2, h3, h5⟩ | ⟨v, m2, hv, h1, h2, h3, h4, h5⟩
  · have h1 := W_meanNo h1
    have hth : Mt (n0, S0) 41 128 [.ref (n0 + 292)] (hp n0 G m2, N + 1, z + 6) = _ := m_thrown (n0 := n0) (S0 := S0) (G := G) (N := N + 1) (z := z + 6) (m := m2) (d := 40)
    rw [h3] at hth
    have hkn : ¬ ic 1 = ic 0 := by decide
    refine ⟨G, m2, N + 1, z + 6, some (.int (ic 1)), some (.double FP.dconst0), none, l9, ?_, fun _ _ => rfl, h5⟩
    simp (disch := first | assumption | (show (_ : Nat) < _; omega) | (show (_ : Nat) ≠ _; omega) | (show (_ : Nat) ≤ _; omega) | exact Or.inl rfl | exact Or.inr rfl) only [hG0, hG1, hG2, hF0, hF1, hA0, hA1, xL, xC, icL, Option.bind_some, Nat.le_add_right, Nat.le_refl, if_true, if_false, and_self, true_and, and_true, or_false, false_or, or_true, true_or, and_false, false_and, not_true_eq_false, not_false_eq_true, Nat.reduceAdd, Nat.reduceLeDiff, Nat.reduceLT, Option.toList_some, Option.toList_none, List.cons_append, List.nil_append, callK_ret, callR_ret, callK_thr, decide_true, Bool.true_and, xNr, bI0, bIT, bIF, ne_eq, Classical.not_not, not_false_eq_true, false_or, List.length_nil, icM, ic_lt, ic_eq, le_nl, ↓reduceIte, Nat.lt_irrefl, ri_ws, ri_wn, ri_as, ri_an, upd_s, upd_n, rp_wi, rp_wa, rl_wi, rl_wa, rl_wp, rl_wpa, rl_wl, rp_wl, ri_wl, rp_wd, ri_wd, in_rng, Int32.lt_irrefl, Nat.not_lt_zero, pk_nc, Nat.reduceEqDiff, Nat.succ_ne_self, Nat.one_ne_zero, Nat.add_left_cancel_iff, ri_wpa, ri_wp, QLaw_law_61, QLaw_law_62, QLaw_law_63, h1, h2, hth, hkn]
  · have h1 := W_meanOk h1
    have hth : Mt (n0, S0) 41 128 [.ref (n0 + 292)] (hp n0 G m2, N, z) = _ := m_thrown (n0 := n0) (S0 := S0) (G := G) (N := N) (z := z) (m := m2) (d := 40)
    rw [h3] at hth
    have hdc : Op.cmpValue (FP.dcmp v v) .l = 0 := dcs hv
    refine ⟨G, m2, N, z, some (.int (ic 0)), some (.double v), none, l9, ?_, fun _ _ => rfl, h5⟩
    simp (disch := first | assumption | (show (_ : Nat) < _; omega) | (show (_ : Nat) ≠ _; omega) | (show (_ : Nat) ≤ _; omega) | exact Or.inl rfl | exact Or.inr rfl) only [hG0, hG1, hG2, hF0, hF1, hA0, hA1, xL, xC, icL, Option.bind_some, Nat.le_add_right, Nat.le_refl, if_true, if_false, and_self, true_and, and_true, or_false, false_or, or_true, true_or, and_false, false_and, not_true_eq_false, not_false_eq_true, Nat.reduceAdd, Nat.reduceLeDiff, Nat.reduceLT, Option.toList_some, Option.toList_none, List.cons_append, List.nil_append, callK_ret, callR_ret, callK_thr, decide_true, Bool.true_and, xNr, bI0, bIT, bIF, ne_eq, Classical.not_not, not_false_eq_true, false_or, List.length_nil, icM, ic_lt, ic_eq, le_nl, ↓reduceIte, Nat.lt_irrefl, ri_ws, ri_wn, ri_as, ri_an, upd_s, upd_n, rp_wi, rp_wa, rl_wi, rl_wa, rl_wp, rl_wpa, rl_wl, rp_wl, ri_wl, rp_wd, ri_wd, in_rng, Int32.lt_irrefl, Nat.not_lt_zero, pk_nc, Nat.reduceEqDiff, Nat.succ_ne_self, Nat.one_ne_zero, Nat.add_left_cancel_iff, ri_wpa, ri_wp, QLaw_law_61, QLaw_law_62, QLaw_law_63, h1, h2, hth, h4, hdc]
theorem L_borrowedShare (hI : Inv n0 N0 z0 q G m N z) (hq : q ≤ 512) (hS : Sta n0 S0 G) (hs : Scr n0 s len sc G) (h7 : 7 * p + 7 ≤ len) : Lc n0 S0 N0 z0 q s p 2430 l6 l7 l8 l9 G m N z := by
  have k303 : kd 303 = 25 := rfl
  have k304 : kd 304 = 26 := rfl
  have k292 : kd 292 = 18 := rfl
  have hs0 := hs G m (fun _ _ => rfl)
  obtain ⟨k, hk, m1, m2, h1, h2, h5⟩ := Q_share (n0 := n0) (S0 := S0) hI
  obtain ⟨hn, hdc⟩ := shs hk
  generalize FP.fdiv (FP.i2f (ic k)) 1086324736 = x at h1 h2 hn hdc
  refine ⟨G, m2, N, z, some (.double (FP.f2d x)), none, some (.double (FP.f2d x)), none, ?_, fun _ _ => rfl, h5⟩
  simp (disch := first | assumption | (show (_ : Nat) < _; omega) | (show (_ : Nat) ≠ _; omega) | (show (_ : Nat) ≤ _; omega) | exact Or.inl rfl | exact Or.inr rfl) only [hG0, hG1, hG2, hF0, hF1, hA0, hA1, xL, xC, icL, Option.bind_some, Nat.le_add_right, Nat.le_refl, if_true, if_false, and_self, true_and, and_true, or_false, false_or, or_true, true_or, and_false, false_and, not_true_eq_false, not_false_eq_true, Nat.reduceAdd, Nat.reduceLeDiff, Nat.reduceLT, Option.toList_some, Option.toList_none, List.cons_append, List.nil_append, callK_ret, callR_ret, callK_thr, decide_true, Bool.true_and, xNr, bI0, bIT, bIF, ne_eq, Classical.not_not, not_false_eq_true, false_or, List.length_nil, icM, ic_lt, ic_eq, le_nl, ↓reduceIte, Nat.lt_irrefl, ri_ws, ri_wn, ri_as, ri_an, upd_s, upd_n, rp_wi, rp_wa, rl_wi, rl_wa, rl_wp, rl_wpa, rl_wl, rp_wl, ri_wl, rp_wd, ri_wd, in_rng, Int32.lt_irrefl, Nat.not_lt_zero, pk_nc, Nat.reduceEqDiff, Nat.succ_ne_self, Nat.one_ne_zero, Nat.add_left_cancel_iff, ri_wpa, ri_wp, QLaw_law_63, QLaw_law_64, h1, h2, hn, hdc]
theorem L_barrowByEarnings (hI : Inv n0 N0 z0 q G m N z) (hq : q ≤ 512) (hS : Sta n0 S0 G) (hs : Scr n0 s len sc G) (h7 : 7 * p + 7 ≤ len) : Lc n0 S0 N0 z0 q s p 2473 l6 l7 l8 l9 G m N z := by
  have k303 : kd 303 = 25 := rfl
  have k304 : kd 304 = 26 := rfl
  have k292 : kd 292 = 18 := rfl
  have hs0 := hs G m (fun _ _ => rfl)
  obtain ⟨k, G1, m1, N1, z1, v, m2, hk, h1, hG, h2, h3, h4, h5⟩ := W_barrowByEarnings (P_barrowByEarnings (S0 := S0) (rk := (sc (7 * p + 1))) hI hq)
  have hs1 := hs G1 m1 hG
  have hth : Mt (n0, S0) 41 128 [.ref (n0 + 292)] (hp n0 G1 m2, N1, z1) = _ := m_thrown (n0 := n0) (S0 := S0) (G := G1) (N := N1) (z := z1) (m := m2) (d := 40)
  rw [h3] at hth
  by_cases hk0 : k = 0
  · subst hk0
    have h4 := h4 rfl
    refine ⟨G1, m2, N1, z1, some (.int (ic 0)), some (.int v), l8, l9, ?_, hG, h5⟩
    simp (disch := first | assumption | (show (_ : Nat) < _; omega) | (show (_ : Nat) ≠ _; omega) | (show (_ : Nat) ≤ _; omega) | exact Or.inl rfl | exact Or.inr rfl) only [hG0, hG1, hG2, hF0, hF1, hA0, hA1, xL, xC, icL, Option.bind_some, Nat.le_add_right, Nat.le_refl, if_true, if_false, and_self, true_and, and_true, or_false, false_or, or_true, true_or, and_false, false_and, not_true_eq_false, not_false_eq_true, Nat.reduceAdd, Nat.reduceLeDiff, Nat.reduceLT, Option.toList_some, Option.toList_none, List.cons_append, List.nil_append, callK_ret, callR_ret, callK_thr, decide_true, Bool.true_and, xNr, bI0, bIT, bIF, ne_eq, Classical.not_not, not_false_eq_true, false_or, List.length_nil, icM, ic_lt, ic_eq, le_nl, ↓reduceIte, Nat.lt_irrefl, ri_ws, ri_wn, ri_as, ri_an, upd_s, upd_n, rp_wi, rp_wa, rl_wi, rl_wa, rl_wp, rl_wpa, rl_wl, rp_wl, ri_wl, rp_wd, ri_wd, in_rng, Int32.lt_irrefl, Nat.not_lt_zero, pk_nc, Nat.reduceEqDiff, Nat.succ_ne_self, Nat.one_ne_zero, Nat.add_left_cancel_iff, ri_wpa, ri_wp, QLaw_law_64, QLaw_law_65, hs0, hs1, h1, h2, hth, h4, lgs, ic_add]
  · have hkn : ¬ ic k = ic 0 := fun y => hk0 (by rw [ic_eq (by omega) (by omega)] at y; exact y)
    refine ⟨G1, m2, N1, z1, some (.int (ic k)), some (.int v), l8, l9, ?_, hG, h5⟩
    simp (disch := first | assumption | (show (_ : Nat) < _; omega) | (show (_ : Nat) ≠ _; omega) | (show (_ : Nat) ≤ _; omega) | exact Or.inl rfl | exact Or.inr rfl) only [hG0, hG1, hG2, hF0, hF1, hA0, hA1, xL, xC, icL, Option.bind_some, Nat.le_add_right, Nat.le_refl, if_true, if_false, and_self, true_and, and_true, or_false, false_or, or_true, true_or, and_false, false_and, not_true_eq_false, not_false_eq_true, Nat.reduceAdd, Nat.reduceLeDiff, Nat.reduceLT, Option.toList_some, Option.toList_none, List.cons_append, List.nil_append, callK_ret, callR_ret, callK_thr, decide_true, Bool.true_and, xNr, bI0, bIT, bIF, ne_eq, Classical.not_not, not_false_eq_true, false_or, List.length_nil, icM, ic_lt, ic_eq, le_nl, ↓reduceIte, Nat.lt_irrefl, ri_ws, ri_wn, ri_as, ri_an, upd_s, upd_n, rp_wi, rp_wa, rl_wi, rl_wa, rl_wp, rl_wpa, rl_wl, rp_wl, ri_wl, rp_wd, ri_wd, in_rng, Int32.lt_irrefl, Nat.not_lt_zero, pk_nc, Nat.reduceEqDiff, Nat.succ_ne_self, Nat.one_ne_zero, Nat.add_left_cancel_iff, ri_wpa, ri_wp, QLaw_law_64, QLaw_law_65, hs0, hs1, h1, h2, hth, hkn, lgs, ic_add]
theorem L_isConsistent (hI : Inv n0 N0 z0 q G m N z) (hq : q ≤ 512) (hS : Sta n0 S0 G) (hs : Scr n0 s len sc G) (h7 : 7 * p + 7 ≤ len) : Lc n0 S0 N0 z0 q s p 2529 l6 l7 l8 l9 G m N z := by
  have k303 : kd 303 = 25 := rfl
  have k304 : kd 304 = 26 := rfl
  have k292 : kd 292 = 18 := rfl
  have hs0 := hs G m (fun _ _ => rfl)
  obtain ⟨m1, m2, h1, h2, h5⟩ := Q_consistent (n0 := n0) (S0 := S0) hI hq
  have hs1 := hs G m1 (fun _ _ => rfl)
  refine ⟨G, m2, N, z, l6, l7, l8, l9, ?_, fun _ _ => rfl, h5⟩
  simp (disch := first | assumption | (show (_ : Nat) < _; omega) | (show (_ : Nat) ≠ _; omega) | (show (_ : Nat) ≤ _; omega) | exact Or.inl rfl | exact Or.inr rfl) only [hG0, hG1, hG2, hF0, hF1, hA0, hA1, xL, xC, icL, Option.bind_some, Nat.le_add_right, Nat.le_refl, if_true, if_false, and_self, true_and, and_true, or_false, false_or, or_true, true_or, and_false, false_and, not_true_eq_false, not_false_eq_true, Nat.reduceAdd, Nat.reduceLeDiff, Nat.reduceLT, Option.toList_some, Option.toList_none, List.cons_append, List.nil_append, callK_ret, callR_ret, callK_thr, decide_true, Bool.true_and, xNr, bI0, bIT, bIF, ne_eq, Classical.not_not, not_false_eq_true, false_or, List.length_nil, icM, ic_lt, ic_eq, le_nl, ↓reduceIte, Nat.lt_irrefl, ri_ws, ri_wn, ri_as, ri_an, upd_s, upd_n, rp_wi, rp_wa, rl_wi, rl_wa, rl_wp, rl_wpa, rl_wl, rp_wl, ri_wl, rp_wd, ri_wd, in_rng, Int32.lt_irrefl, Nat.not_lt_zero, pk_nc, Nat.reduceEqDiff, Nat.succ_ne_self, Nat.one_ne_zero, Nat.add_left_cancel_iff, ri_wpa, ri_wp, QLaw_law_65, hs0, hs1, h1, h2, lgs, ic_add]
theorem L_writeBarrow (hI : Inv n0 N0 z0 q G m N z) (hq : q ≤ 512) (hS : Sta n0 S0 G) (hs : Scr n0 s len sc G) (h7 : 7 * p + 7 ≤ len) : Lc n0 S0 N0 z0 q s p 2542 l6 l7 l8 l9 G m N z := by
  have k303 : kd 303 = 25 := rfl
  have k304 : kd 304 = 26 := rfl
  have k292 : kd 292 = 18 := rfl
  have hs0 := hs G m (fun _ _ => rfl)
  obtain ⟨k, G1, m1, N1, z1, v, m2, hk, h1, hG, h2, h3, h4, h5⟩ := W_writeBarrow (P_writeBarrow (S0 := S0) (w := (sc (7 * p + 1))) hI hq hS)
  have hs1 := hs G1 m1 hG
  have hth : Mt (n0, S0) 41 128 [.ref (n0 + 292)] (hp n0 G1 m2, N1, z1) = _ := m_thrown (n0 := n0) (S0 := S0) (G := G1) (N := N1) (z := z1) (m := m2) (d := 40)
  rw [h3] at hth
  by_cases hk0 : k = 0
  · subst hk0
    have h4 := h4 rfl
    refine ⟨G1, m2, N1, z1, some (.int (ic 0)), some (.int v), l8, l9, ?_, hG, h5⟩
    simp (disch := first | assumption | (show (_ : Nat) < _; omega) | (show (_ : Nat) ≠ _; omega) | (show (_ : Nat) ≤ _; omega) | exact Or.inl rfl | exact Or.inr rfl) only [hG0, hG1, hG2, hF0, hF1, hA0, hA1, xL, xC, icL, Option.bind_some, Nat.le_add_right, Nat.le_refl, if_true, if_false, and_self, true_and, and_true, or_false, false_or, or_true, true_or, and_false, false_and, not_true_eq_false, not_false_eq_true, Nat.reduceAdd, Nat.reduceLeDiff, Nat.reduceLT, Option.toList_some, Option.toList_none, List.cons_append, List.nil_append, callK_ret, callR_ret, callK_thr, decide_true, Bool.true_and, xNr, bI0, bIT, bIF, ne_eq, Classical.not_not, not_false_eq_true, false_or, List.length_nil, icM, ic_lt, ic_eq, le_nl, ↓reduceIte, Nat.lt_irrefl, ri_ws, ri_wn, ri_as, ri_an, upd_s, upd_n, rp_wi, rp_wa, rl_wi, rl_wa, rl_wp, rl_wpa, rl_wl, rp_wl, ri_wl, rp_wd, ri_wd, in_rng, Int32.lt_irrefl, Nat.not_lt_zero, pk_nc, Nat.reduceEqDiff, Nat.succ_ne_self, Nat.one_ne_zero, Nat.add_left_cancel_iff, ri_wpa, ri_wp, QLaw_law_65, QLaw_law_66, QLaw_law_67, hs0, hs1, h1, h2, hth, h4, lgs, ic_add]
  · have hkn : ¬ ic k = ic 0 := fun y => hk0 (by rw [ic_eq (by omega) (by omega)] at y; exact y)
    refine ⟨G1, m2, N1, z1, some (.int (ic k)), some (.int v), l8, l9, ?_, hG, h5⟩
    simp (disch := first | assumption | (show (_ : Nat) < _; omega) | (show (_ : Nat) ≠ _; omega) | (show (_ : Nat) ≤ _; omega) | exact Or.inl rfl | exact Or.inr rfl) only [hG0, hG1, hG2, hF0, hF1, hA0, hA1, xL, xC, icL, Option.bind_some, Nat.le_add_right, Nat.le_refl, if_true, if_false, and_self, true_and, and_true, or_false, false_or, or_true, true_or, and_false, false_and, not_true_eq_false, not_false_eq_true, Nat.reduceAdd, Nat.reduceLeDiff, Nat.reduceLT, Option.toList_some, Option.toList_none, List.cons_append, List.nil_append, callK_ret, callR_ret, callK_thr, decide_true, Bool.true_and, xNr, bI0, bIT, bIF, ne_eq, Classical.not_not, not_false_eq_true, false_or, List.length_nil, icM, ic_lt, ic_eq, le_nl, ↓reduceIte, Nat.lt_irrefl, ri_ws, ri_wn, ri_as, ri_an, upd_s, upd_n, rp_wi, rp_wa, rl_wi, rl_wa, rl_wp, rl_wpa, rl_wl, rp_wl, ri_wl, rp_wd, ri_wd, in_rng, Int32.lt_irrefl, Nat.not_lt_zero, pk_nc, Nat.reduceEqDiff, Nat.succ_ne_self, Nat.one_ne_zero, Nat.add_left_cancel_iff, ri_wpa, ri_wp, QLaw_law_65, QLaw_law_66, QLaw_law_67, hs0, hs1, h1, h2, hth, hkn, lgs, ic_add]
theorem L_writePlan (hI : Inv n0 N0 z0 q G m N z) (hq : q ≤ 512) (hS : Sta n0 S0 G) (hs : Scr n0 s len sc G) (h7 : 7 * p + 7 ≤ len) : Lc n0 S0 N0 z0 q s p 2598 l6 l7 l8 l9 G m N z := by
  have k303 : kd 303 = 25 := rfl
  have k304 : kd 304 = 26 := rfl
  have k292 : kd 292 = 18 := rfl
  have hs0 := hs G m (fun _ _ => rfl)
  obtain ⟨k, G1, m1, N1, z1, v, m2, hk, h1, hG, h2, h3, h4, h5⟩ := W_writePlan (P_writePlan (S0 := S0) (w := (sc (7 * p + 1))) hI hq hS)
  have hs1 := hs G1 m1 hG
  have hth : Mt (n0, S0) 41 128 [.ref (n0 + 292)] (hp n0 G1 m2, N1, z1) = _ := m_thrown (n0 := n0) (S0 := S0) (G := G1) (N := N1) (z := z1) (m := m2) (d := 40)
  rw [h3] at hth
  by_cases hk0 : k = 0
  · subst hk0
    have h4 := h4 rfl
    refine ⟨G1, m2, N1, z1, some (.int (ic 0)), some (.int v), l8, l9, ?_, hG, h5⟩
    simp (disch := first | assumption | (show (_ : Nat) < _; omega) | (show (_ : Nat) ≠ _; omega) | (show (_ : Nat) ≤ _; omega) | exact Or.inl rfl | exact Or.inr rfl) only [hG0, hG1, hG2, hF0, hF1, hA0, hA1, xL, xC, icL, Option.bind_some, Nat.le_add_right, Nat.le_refl, if_true, if_false, and_self, true_and, and_true, or_false, false_or, or_true, true_or, and_false, false_and, not_true_eq_false, not_false_eq_true, Nat.reduceAdd, Nat.reduceLeDiff, Nat.reduceLT, Option.toList_some, Option.toList_none, List.cons_append, List.nil_append, callK_ret, callR_ret, callK_thr, decide_true, Bool.true_and, xNr, bI0, bIT, bIF, ne_eq, Classical.not_not, not_false_eq_true, false_or, List.length_nil, icM, ic_lt, ic_eq, le_nl, ↓reduceIte, Nat.lt_irrefl, ri_ws, ri_wn, ri_as, ri_an, upd_s, upd_n, rp_wi, rp_wa, rl_wi, rl_wa, rl_wp, rl_wpa, rl_wl, rp_wl, ri_wl, rp_wd, ri_wd, in_rng, Int32.lt_irrefl, Nat.not_lt_zero, pk_nc, Nat.reduceEqDiff, Nat.succ_ne_self, Nat.one_ne_zero, Nat.add_left_cancel_iff, ri_wpa, ri_wp, QLaw_law_67, QLaw_law_68, hs0, hs1, h1, h2, hth, h4, lgs, ic_add]
  · have hkn : ¬ ic k = ic 0 := fun y => hk0 (by rw [ic_eq (by omega) (by omega)] at y; exact y)
    refine ⟨G1, m2, N1, z1, some (.int (ic k)), some (.int v), l8, l9, ?_, hG, h5⟩
    simp (disch := first | assumption | (show (_ : Nat) < _; omega) | (show (_ : Nat) ≠ _; omega) | (show (_ : Nat) ≤ _; omega) | exact Or.inl rfl | exact Or.inr rfl) only [hG0, hG1, hG2, hF0, hF1, hA0, hA1, xL, xC, icL, Option.bind_some, Nat.le_add_right, Nat.le_refl, if_true, if_false, and_self, true_and, and_true, or_false, false_or, or_true, true_or, and_false, false_and, not_true_eq_false, not_false_eq_true, Nat.reduceAdd, Nat.reduceLeDiff, Nat.reduceLT, Option.toList_some, Option.toList_none, List.cons_append, List.nil_append, callK_ret, callR_ret, callK_thr, decide_true, Bool.true_and, xNr, bI0, bIT, bIF, ne_eq, Classical.not_not, not_false_eq_true, false_or, List.length_nil, icM, ic_lt, ic_eq, le_nl, ↓reduceIte, Nat.lt_irrefl, ri_ws, ri_wn, ri_as, ri_an, upd_s, upd_n, rp_wi, rp_wa, rl_wi, rl_wa, rl_wp, rl_wpa, rl_wl, rp_wl, ri_wl, rp_wd, ri_wd, in_rng, Int32.lt_irrefl, Nat.not_lt_zero, pk_nc, Nat.reduceEqDiff, Nat.succ_ne_self, Nat.one_ne_zero, Nat.add_left_cancel_iff, ri_wpa, ri_wp, QLaw_law_67, QLaw_law_68, hs0, hs1, h1, h2, hth, hkn, lgs, ic_add]
theorem L_charAt (hI : Inv n0 N0 z0 q G m N z) (hq : q ≤ 512) (hS : Sta n0 S0 G) (hs : Scr n0 s len sc G) (h7 : 7 * p + 7 ≤ len) : Lc n0 S0 N0 z0 q s p 2654 l6 l7 l8 l9 G m N z := by
  have k303 : kd 303 = 25 := rfl
  have k304 : kd 304 = 26 := rfl
  have k292 : kd 292 = 18 := rfl
  have hs0 := hs G m (fun _ _ => rfl)
  obtain ⟨k, G1, m1, N1, z1, v, m2, hk, h1, hG, h2, h3, h4, h5⟩ := W_charAt (P_charAt (S0 := S0) (i := (sc (7 * p + 1))) hI hq hS)
  have hs1 := hs G1 m1 hG
  have hth : Mt (n0, S0) 41 128 [.ref (n0 + 292)] (hp n0 G1 m2, N1, z1) = _ := m_thrown (n0 := n0) (S0 := S0) (G := G1) (N := N1) (z := z1) (m := m2) (d := 40)
  rw [h3] at hth
  by_cases hk0 : k = 0
  · subst hk0
    have h4 := h4 rfl
    refine ⟨G1, m2, N1, z1, some (.int (ic 0)), some (.int v), l8, l9, ?_, hG, h5⟩
    simp (disch := first | assumption | (show (_ : Nat) < _; omega) | (show (_ : Nat) ≠ _; omega) | (show (_ : Nat) ≤ _; omega) | exact Or.inl rfl | exact Or.inr rfl) only [hG0, hG1, hG2, hF0, hF1, hA0, hA1, xL, xC, icL, Option.bind_some, Nat.le_add_right, Nat.le_refl, if_true, if_false, and_self, true_and, and_true, or_false, false_or, or_true, true_or, and_false, false_and, not_true_eq_false, not_false_eq_true, Nat.reduceAdd, Nat.reduceLeDiff, Nat.reduceLT, Option.toList_some, Option.toList_none, List.cons_append, List.nil_append, callK_ret, callR_ret, callK_thr, decide_true, Bool.true_and, xNr, bI0, bIT, bIF, ne_eq, Classical.not_not, not_false_eq_true, false_or, List.length_nil, icM, ic_lt, ic_eq, le_nl, ↓reduceIte, Nat.lt_irrefl, ri_ws, ri_wn, ri_as, ri_an, upd_s, upd_n, rp_wi, rp_wa, rl_wi, rl_wa, rl_wp, rl_wpa, rl_wl, rp_wl, ri_wl, rp_wd, ri_wd, in_rng, Int32.lt_irrefl, Nat.not_lt_zero, pk_nc, Nat.reduceEqDiff, Nat.succ_ne_self, Nat.one_ne_zero, Nat.add_left_cancel_iff, ri_wpa, ri_wp, QLaw_law_69, QLaw_law_70, hs0, hs1, h1, h2, hth, h4, lgs, ic_add]
  · have hkn : ¬ ic k = ic 0 := fun y => hk0 (by rw [ic_eq (by omega) (by omega)] at y; exact y)
    refine ⟨G1, m2, N1, z1, some (.int (ic k)), some (.int v), l8, l9, ?_, hG, h5⟩
    simp (disch := first | assumption | (show (_ : Nat) < _; omega) | (show (_ : Nat) ≠ _; omega) | (show (_ : Nat) ≤ _; omega) | exact Or.inl rfl | exact Or.inr rfl) only [hG0, hG1, hG2, hF0, hF1, hA0, hA1, xL, xC, icL, Option.bind_some, Nat.le_add_right, Nat.le_refl, if_true, if_false, and_self, true_and, and_true, or_false, false_or, or_true, true_or, and_false, false_and, not_true_eq_false, not_false_eq_true, Nat.reduceAdd, Nat.reduceLeDiff, Nat.reduceLT, Option.toList_some, Option.toList_none, List.cons_append, List.nil_append, callK_ret, callR_ret, callK_thr, decide_true, Bool.true_and, xNr, bI0, bIT, bIF, ne_eq, Classical.not_not, not_false_eq_true, false_or, List.length_nil, icM, ic_lt, ic_eq, le_nl, ↓reduceIte, Nat.lt_irrefl, ri_ws, ri_wn, ri_as, ri_an, upd_s, upd_n, rp_wi, rp_wa, rl_wi, rl_wa, rl_wp, rl_wpa, rl_wl, rp_wl, ri_wl, rp_wd, ri_wd, in_rng, Int32.lt_irrefl, Nat.not_lt_zero, pk_nc, Nat.reduceEqDiff, Nat.succ_ne_self, Nat.one_ne_zero, Nat.add_left_cancel_iff, ri_wpa, ri_wp, QLaw_law_69, QLaw_law_70, hs0, hs1, h1, h2, hth, hkn, lgs, ic_add]
theorem L_type (hI : Inv n0 N0 z0 q G m N z) (hq : q ≤ 512) (hS : Sta n0 S0 G) (hs : Scr n0 s len sc G) (h7 : 7 * p + 7 ≤ len) : Lc n0 S0 N0 z0 q s p 2710 l6 l7 l8 l9 G m N z := by
  have k303 : kd 303 = 25 := rfl
  have k304 : kd 304 = 26 := rfl
  have k292 : kd 292 = 18 := rfl
  have hs0 := hs G m (fun _ _ => rfl)
  obtain ⟨k, G1, m1, N1, z1, v, m2, hk, h1, hG, h2, h3, h4, h5⟩ := W_type (P_type (S0 := S0) (c := (((sc (7 * p + 1)).toUInt32 % 65536).toInt32)) hI hq (sNar_c _))
  have hs1 := hs G1 m1 hG
  have hth : Mt (n0, S0) 41 128 [.ref (n0 + 292)] (hp n0 G1 m2, N1, z1) = _ := m_thrown (n0 := n0) (S0 := S0) (G := G1) (N := N1) (z := z1) (m := m2) (d := 40)
  rw [h3] at hth
  by_cases hk0 : k = 0
  · subst hk0
    have h4 := h4 rfl
    refine ⟨G1, m2, N1, z1, some (.int (ic 0)), some (.int v), l8, l9, ?_, hG, h5⟩
    simp (disch := first | assumption | (show (_ : Nat) < _; omega) | (show (_ : Nat) ≠ _; omega) | (show (_ : Nat) ≤ _; omega) | exact Or.inl rfl | exact Or.inr rfl) only [hG0, hG1, hG2, hF0, hF1, hA0, hA1, xL, xC, icL, Option.bind_some, Nat.le_add_right, Nat.le_refl, if_true, if_false, and_self, true_and, and_true, or_false, false_or, or_true, true_or, and_false, false_and, not_true_eq_false, not_false_eq_true, Nat.reduceAdd, Nat.reduceLeDiff, Nat.reduceLT, Option.toList_some, Option.toList_none, List.cons_append, List.nil_append, callK_ret, callR_ret, callK_thr, decide_true, Bool.true_and, xNr, bI0, bIT, bIF, ne_eq, Classical.not_not, not_false_eq_true, false_or, List.length_nil, icM, ic_lt, ic_eq, le_nl, ↓reduceIte, Nat.lt_irrefl, ri_ws, ri_wn, ri_as, ri_an, upd_s, upd_n, rp_wi, rp_wa, rl_wi, rl_wa, rl_wp, rl_wpa, rl_wl, rp_wl, ri_wl, rp_wd, ri_wd, in_rng, Int32.lt_irrefl, Nat.not_lt_zero, pk_nc, Nat.reduceEqDiff, Nat.succ_ne_self, Nat.one_ne_zero, Nat.add_left_cancel_iff, ri_wpa, ri_wp, QLaw_law_70, QLaw_law_71, QLaw_law_72, hs0, hs1, h1, h2, hth, h4, lgs, ic_add]
  · have hkn : ¬ ic k = ic 0 := fun y => hk0 (by rw [ic_eq (by omega) (by omega)] at y; exact y)
    refine ⟨G1, m2, N1, z1, some (.int (ic k)), some (.int v), l8, l9, ?_, hG, h5⟩
    simp (disch := first | assumption | (show (_ : Nat) < _; omega) | (show (_ : Nat) ≠ _; omega) | (show (_ : Nat) ≤ _; omega) | exact Or.inl rfl | exact Or.inr rfl) only [hG0, hG1, hG2, hF0, hF1, hA0, hA1, xL, xC, icL, Option.bind_some, Nat.le_add_right, Nat.le_refl, if_true, if_false, and_self, true_and, and_true, or_false, false_or, or_true, true_or, and_false, false_and, not_true_eq_false, not_false_eq_true, Nat.reduceAdd, Nat.reduceLeDiff, Nat.reduceLT, Option.toList_some, Option.toList_none, List.cons_append, List.nil_append, callK_ret, callR_ret, callK_thr, decide_true, Bool.true_and, xNr, bI0, bIT, bIF, ne_eq, Classical.not_not, not_false_eq_true, false_or, List.length_nil, icM, ic_lt, ic_eq, le_nl, ↓reduceIte, Nat.lt_irrefl, ri_ws, ri_wn, ri_as, ri_an, upd_s, upd_n, rp_wi, rp_wa, rl_wi, rl_wa, rl_wp, rl_wpa, rl_wl, rp_wl, ri_wl, rp_wd, ri_wd, in_rng, Int32.lt_irrefl, Nat.not_lt_zero, pk_nc, Nat.reduceEqDiff, Nat.succ_ne_self, Nat.one_ne_zero, Nat.add_left_cancel_iff, ri_wpa, ri_wp, QLaw_law_70, QLaw_law_71, QLaw_law_72, hs0, hs1, h1, h2, hth, hkn, lgs, ic_add]
theorem L_run (hI : Inv n0 N0 z0 q G m N z) (hq : q ≤ 512) (hS : Sta n0 S0 G) (hs : Scr n0 s len sc G) (h7 : 7 * p + 7 ≤ len) : Lc n0 S0 N0 z0 q s p 2768 l6 l7 l8 l9 G m N z := by
  have k303 : kd 303 = 25 := rfl
  have k304 : kd 304 = 26 := rfl
  have k292 : kd 292 = 18 := rfl
  have hs0 := hs G m (fun _ _ => rfl)
  obtain ⟨k, G1, m1, N1, z1, v, m2, hk, h1, hG, h2, h3, h4, h5⟩ := W_run (P_run (S0 := S0) hI hq hS)
  have hs1 := hs G1 m1 hG
  have hth : Mt (n0, S0) 41 128 [.ref (n0 + 292)] (hp n0 G1 m2, N1, z1) = _ := m_thrown (n0 := n0) (S0 := S0) (G := G1) (N := N1) (z := z1) (m := m2) (d := 40)
  rw [h3] at hth
  by_cases hk0 : k = 0
  · subst hk0
    have h4 := h4 rfl
    refine ⟨G1, m2, N1, z1, some (.int (ic 0)), some (.int v), l8, l9, ?_, hG, h5⟩
    simp (disch := first | assumption | (show (_ : Nat) < _; omega) | (show (_ : Nat) ≠ _; omega) | (show (_ : Nat) ≤ _; omega) | exact Or.inl rfl | exact Or.inr rfl) only [hG0, hG1, hG2, hF0, hF1, hA0, hA1, xL, xC, icL, Option.bind_some, Nat.le_add_right, Nat.le_refl, if_true, if_false, and_self, true_and, and_true, or_false, false_or, or_true, true_or, and_false, false_and, not_true_eq_false, not_false_eq_true, Nat.reduceAdd, Nat.reduceLeDiff, Nat.reduceLT, Option.toList_some, Option.toList_none, List.cons_append, List.nil_append, callK_ret, callR_ret, callK_thr, decide_true, Bool.true_and, xNr, bI0, bIT, bIF, ne_eq, Classical.not_not, not_false_eq_true, false_or, List.length_nil, icM, ic_lt, ic_eq, le_nl, ↓reduceIte, Nat.lt_irrefl, ri_ws, ri_wn, ri_as, ri_an, upd_s, upd_n, rp_wi, rp_wa, rl_wi, rl_wa, rl_wp, rl_wpa, rl_wl, rp_wl, ri_wl, rp_wd, ri_wd, in_rng, Int32.lt_irrefl, Nat.not_lt_zero, pk_nc, Nat.reduceEqDiff, Nat.succ_ne_self, Nat.one_ne_zero, Nat.add_left_cancel_iff, ri_wpa, ri_wp, QLaw_law_72, QLaw_law_73, hs0, hs1, h1, h2, hth, h4, lgs, ic_add]
  · have hkn : ¬ ic k = ic 0 := fun y => hk0 (by rw [ic_eq (by omega) (by omega)] at y; exact y)
    refine ⟨G1, m2, N1, z1, some (.int (ic k)), some (.int v), l8, l9, ?_, hG, h5⟩
    simp (disch := first | assumption | (show (_ : Nat) < _; omega) | (show (_ : Nat) ≠ _; omega) | (show (_ : Nat) ≤ _; omega) | exact Or.inl rfl | exact Or.inr rfl) only [hG0, hG1, hG2, hF0, hF1, hA0, hA1, xL, xC, icL, Option.bind_some, Nat.le_add_right, Nat.le_refl, if_true, if_false, and_self, true_and, and_true, or_false, false_or, or_true, true_or, and_false, false_and, not_true_eq_false, not_false_eq_true, Nat.reduceAdd, Nat.reduceLeDiff, Nat.reduceLT, Option.toList_some, Option.toList_none, List.cons_append, List.nil_append, callK_ret, callR_ret, callK_thr, decide_true, Bool.true_and, xNr, bI0, bIT, bIF, ne_eq, Classical.not_not, not_false_eq_true, false_or, List.length_nil, icM, ic_lt, ic_eq, le_nl, ↓reduceIte, Nat.lt_irrefl, ri_ws, ri_wn, ri_as, ri_an, upd_s, upd_n, rp_wi, rp_wa, rl_wi, rl_wa, rl_wp, rl_wpa, rl_wl, rp_wl, ri_wl, rp_wd, ri_wd, in_rng, Int32.lt_irrefl, Nat.not_lt_zero, pk_nc, Nat.reduceEqDiff, Nat.succ_ne_self, Nat.one_ne_zero, Nat.add_left_cancel_iff, ri_wpa, ri_wp, QLaw_law_72, QLaw_law_73, hs0, hs1, h1, h2, hth, hkn, lgs, ic_add]
theorem L_errorPosition (hI : Inv n0 N0 z0 q G m N z) (hq : q ≤ 512) (hS : Sta n0 S0 G) (hs : Scr n0 s len sc G) (h7 : 7 * p + 7 ≤ len) : Lc n0 S0 N0 z0 q s p 2812 l6 l7 l8 l9 G m N z := by
  have k303 : kd 303 = 25 := rfl
  have k304 : kd 304 = 26 := rfl
  have k292 : kd 292 = 18 := rfl
  have hs0 := hs G m (fun _ _ => rfl)
  obtain ⟨k, G1, m1, N1, z1, v, m2, hk, h1, hG, h2, h3, h4, h5⟩ := W_errorPosition (P_errorPosition (S0 := S0) hI hq)
  have hs1 := hs G1 m1 hG
  have hth : Mt (n0, S0) 41 128 [.ref (n0 + 292)] (hp n0 G1 m2, N1, z1) = _ := m_thrown (n0 := n0) (S0 := S0) (G := G1) (N := N1) (z := z1) (m := m2) (d := 40)
  rw [h3] at hth
  by_cases hk0 : k = 0
  · subst hk0
    have h4 := h4 rfl
    refine ⟨G1, m2, N1, z1, some (.int (ic 0)), some (.int v), l8, l9, ?_, hG, h5⟩
    simp (disch := first | assumption | (show (_ : Nat) < _; omega) | (show (_ : Nat) ≠ _; omega) | (show (_ : Nat) ≤ _; omega) | exact Or.inl rfl | exact Or.inr rfl) only [hG0, hG1, hG2, hF0, hF1, hA0, hA1, xL, xC, icL, Option.bind_some, Nat.le_add_right, Nat.le_refl, if_true, if_false, and_self, true_and, and_true, or_false, false_or, or_true, true_or, and_false, false_and, not_true_eq_false, not_false_eq_true, Nat.reduceAdd, Nat.reduceLeDiff, Nat.reduceLT, Option.toList_some, Option.toList_none, List.cons_append, List.nil_append, callK_ret, callR_ret, callK_thr, decide_true, Bool.true_and, xNr, bI0, bIT, bIF, ne_eq, Classical.not_not, not_false_eq_true, false_or, List.length_nil, icM, ic_lt, ic_eq, le_nl, ↓reduceIte, Nat.lt_irrefl, ri_ws, ri_wn, ri_as, ri_an, upd_s, upd_n, rp_wi, rp_wa, rl_wi, rl_wa, rl_wp, rl_wpa, rl_wl, rp_wl, ri_wl, rp_wd, ri_wd, in_rng, Int32.lt_irrefl, Nat.not_lt_zero, pk_nc, Nat.reduceEqDiff, Nat.succ_ne_self, Nat.one_ne_zero, Nat.add_left_cancel_iff, ri_wpa, ri_wp, QLaw_law_73, QLaw_law_74, hs0, hs1, h1, h2, hth, h4, lgs, ic_add]
  · have hkn : ¬ ic k = ic 0 := fun y => hk0 (by rw [ic_eq (by omega) (by omega)] at y; exact y)
    refine ⟨G1, m2, N1, z1, some (.int (ic k)), some (.int v), l8, l9, ?_, hG, h5⟩
    simp (disch := first | assumption | (show (_ : Nat) < _; omega) | (show (_ : Nat) ≠ _; omega) | (show (_ : Nat) ≤ _; omega) | exact Or.inl rfl | exact Or.inr rfl) only [hG0, hG1, hG2, hF0, hF1, hA0, hA1, xL, xC, icL, Option.bind_some, Nat.le_add_right, Nat.le_refl, if_true, if_false, and_self, true_and, and_true, or_false, false_or, or_true, true_or, and_false, false_and, not_true_eq_false, not_false_eq_true, Nat.reduceAdd, Nat.reduceLeDiff, Nat.reduceLT, Option.toList_some, Option.toList_none, List.cons_append, List.nil_append, callK_ret, callR_ret, callK_thr, decide_true, Bool.true_and, xNr, bI0, bIT, bIF, ne_eq, Classical.not_not, not_false_eq_true, false_or, List.length_nil, icM, ic_lt, ic_eq, le_nl, ↓reduceIte, Nat.lt_irrefl, ri_ws, ri_wn, ri_as, ri_an, upd_s, upd_n, rp_wi, rp_wa, rl_wi, rl_wa, rl_wp, rl_wpa, rl_wl, rp_wl, ri_wl, rp_wd, ri_wd, in_rng, Int32.lt_irrefl, Nat.not_lt_zero, pk_nc, Nat.reduceEqDiff, Nat.succ_ne_self, Nat.one_ne_zero, Nat.add_left_cancel_iff, ri_wpa, ri_wp, QLaw_law_73, QLaw_law_74, hs0, hs1, h1, h2, hth, hkn, lgs, ic_add]
theorem L_failedCommand (hI : Inv n0 N0 z0 q G m N z) (hq : q ≤ 512) (hS : Sta n0 S0 G) (hs : Scr n0 s len sc G) (h7 : 7 * p + 7 ≤ len) : Lc n0 S0 N0 z0 q s p 2856 l6 l7 l8 l9 G m N z := by
  have k303 : kd 303 = 25 := rfl
  have k304 : kd 304 = 26 := rfl
  have k292 : kd 292 = 18 := rfl
  have hs0 := hs G m (fun _ _ => rfl)
  obtain ⟨k, G1, m1, N1, z1, v, m2, hk, h1, hG, h2, h3, h4, h5⟩ := W_failedCommand (P_failedCommand (S0 := S0) hI hq)
  have hs1 := hs G1 m1 hG
  have hth : Mt (n0, S0) 41 128 [.ref (n0 + 292)] (hp n0 G1 m2, N1, z1) = _ := m_thrown (n0 := n0) (S0 := S0) (G := G1) (N := N1) (z := z1) (m := m2) (d := 40)
  rw [h3] at hth
  by_cases hk0 : k = 0
  · subst hk0
    have h4 := h4 rfl
    refine ⟨G1, m2, N1, z1, some (.int (ic 0)), some (.int v), l8, l9, ?_, hG, h5⟩
    simp (disch := first | assumption | (show (_ : Nat) < _; omega) | (show (_ : Nat) ≠ _; omega) | (show (_ : Nat) ≤ _; omega) | exact Or.inl rfl | exact Or.inr rfl) only [hG0, hG1, hG2, hF0, hF1, hA0, hA1, xL, xC, icL, Option.bind_some, Nat.le_add_right, Nat.le_refl, if_true, if_false, and_self, true_and, and_true, or_false, false_or, or_true, true_or, and_false, false_and, not_true_eq_false, not_false_eq_true, Nat.reduceAdd, Nat.reduceLeDiff, Nat.reduceLT, Option.toList_some, Option.toList_none, List.cons_append, List.nil_append, callK_ret, callR_ret, callK_thr, decide_true, Bool.true_and, xNr, bI0, bIT, bIF, ne_eq, Classical.not_not, not_false_eq_true, false_or, List.length_nil, icM, ic_lt, ic_eq, le_nl, ↓reduceIte, Nat.lt_irrefl, ri_ws, ri_wn, ri_as, ri_an, upd_s, upd_n, rp_wi, rp_wa, rl_wi, rl_wa, rl_wp, rl_wpa, rl_wl, rp_wl, ri_wl, rp_wd, ri_wd, in_rng, Int32.lt_irrefl, Nat.not_lt_zero, pk_nc, Nat.reduceEqDiff, Nat.succ_ne_self, Nat.one_ne_zero, Nat.add_left_cancel_iff, ri_wpa, ri_wp, QLaw_law_74, QLaw_law_75, hs0, hs1, h1, h2, hth, h4, lgs, ic_add]
  · have hkn : ¬ ic k = ic 0 := fun y => hk0 (by rw [ic_eq (by omega) (by omega)] at y; exact y)
    refine ⟨G1, m2, N1, z1, some (.int (ic k)), some (.int v), l8, l9, ?_, hG, h5⟩
    simp (disch := first | assumption | (show (_ : Nat) < _; omega) | (show (_ : Nat) ≠ _; omega) | (show (_ : Nat) ≤ _; omega) | exact Or.inl rfl | exact Or.inr rfl) only [hG0, hG1, hG2, hF0, hF1, hA0, hA1, xL, xC, icL, Option.bind_some, Nat.le_add_right, Nat.le_refl, if_true, if_false, and_self, true_and, and_true, or_false, false_or, or_true, true_or, and_false, false_and, not_true_eq_false, not_false_eq_true, Nat.reduceAdd, Nat.reduceLeDiff, Nat.reduceLT, Option.toList_some, Option.toList_none, List.cons_append, List.nil_append, callK_ret, callR_ret, callK_thr, decide_true, Bool.true_and, xNr, bI0, bIT, bIF, ne_eq, Classical.not_not, not_false_eq_true, false_or, List.length_nil, icM, ic_lt, ic_eq, le_nl, ↓reduceIte, Nat.lt_irrefl, ri_ws, ri_wn, ri_as, ri_an, upd_s, upd_n, rp_wi, rp_wa, rl_wi, rl_wa, rl_wp, rl_wpa, rl_wl, rp_wl, ri_wl, rp_wd, ri_wd, in_rng, Int32.lt_irrefl, Nat.not_lt_zero, pk_nc, Nat.reduceEqDiff, Nat.succ_ne_self, Nat.one_ne_zero, Nat.add_left_cancel_iff, ri_wpa, ri_wp, QLaw_law_74, QLaw_law_75, hs0, hs1, h1, h2, hth, hkn, lgs, ic_add]
theorem L_undo (hI : Inv n0 N0 z0 q G m N z) (hq : q ≤ 512) (hS : Sta n0 S0 G) (hs : Scr n0 s len sc G) (h7 : 7 * p + 7 ≤ len) : Lc n0 S0 N0 z0 q s p 2900 l6 l7 l8 l9 G m N z := by
  have k303 : kd 303 = 25 := rfl
  have k304 : kd 304 = 26 := rfl
  have k292 : kd 292 = 18 := rfl
  have hs0 := hs G m (fun _ _ => rfl)
  obtain ⟨k, G1, m1, N1, z1, v, m2, hk, h1, hG, h2, h3, h4, h5⟩ := W_undo (P_undo (S0 := S0) hI hq)
  have hs1 := hs G1 m1 hG
  have hth : Mt (n0, S0) 41 128 [.ref (n0 + 292)] (hp n0 G1 m2, N1, z1) = _ := m_thrown (n0 := n0) (S0 := S0) (G := G1) (N := N1) (z := z1) (m := m2) (d := 40)
  rw [h3] at hth
  by_cases hk0 : k = 0
  · subst hk0
    have h4 := h4 rfl
    refine ⟨G1, m2, N1, z1, some (.int (ic 0)), some (.int v), l8, l9, ?_, hG, h5⟩
    simp (disch := first | assumption | (show (_ : Nat) < _; omega) | (show (_ : Nat) ≠ _; omega) | (show (_ : Nat) ≤ _; omega) | exact Or.inl rfl | exact Or.inr rfl) only [hG0, hG1, hG2, hF0, hF1, hA0, hA1, xL, xC, icL, Option.bind_some, Nat.le_add_right, Nat.le_refl, if_true, if_false, and_self, true_and, and_true, or_false, false_or, or_true, true_or, and_false, false_and, not_true_eq_false, not_false_eq_true, Nat.reduceAdd, Nat.reduceLeDiff, Nat.reduceLT, Option.toList_some, Option.toList_none, List.cons_append, List.nil_append, callK_ret, callR_ret, callK_thr, decide_true, Bool.true_and, xNr, bI0, bIT, bIF, ne_eq, Classical.not_not, not_false_eq_true, false_or, List.length_nil, icM, ic_lt, ic_eq, le_nl, ↓reduceIte, Nat.lt_irrefl, ri_ws, ri_wn, ri_as, ri_an, upd_s, upd_n, rp_wi, rp_wa, rl_wi, rl_wa, rl_wp, rl_wpa, rl_wl, rp_wl, ri_wl, rp_wd, ri_wd, in_rng, Int32.lt_irrefl, Nat.not_lt_zero, pk_nc, Nat.reduceEqDiff, Nat.succ_ne_self, Nat.one_ne_zero, Nat.add_left_cancel_iff, ri_wpa, ri_wp, QLaw_law_75, QLaw_law_76, hs0, hs1, h1, h2, hth, h4, lgs, ic_add]
  · have hkn : ¬ ic k = ic 0 := fun y => hk0 (by rw [ic_eq (by omega) (by omega)] at y; exact y)
    refine ⟨G1, m2, N1, z1, some (.int (ic k)), some (.int v), l8, l9, ?_, hG, h5⟩
    simp (disch := first | assumption | (show (_ : Nat) < _; omega) | (show (_ : Nat) ≠ _; omega) | (show (_ : Nat) ≤ _; omega) | exact Or.inl rfl | exact Or.inr rfl) only [hG0, hG1, hG2, hF0, hF1, hA0, hA1, xL, xC, icL, Option.bind_some, Nat.le_add_right, Nat.le_refl, if_true, if_false, and_self, true_and, and_true, or_false, false_or, or_true, true_or, and_false, false_and, not_true_eq_false, not_false_eq_true, Nat.reduceAdd, Nat.reduceLeDiff, Nat.reduceLT, Option.toList_some, Option.toList_none, List.cons_append, List.nil_append, callK_ret, callR_ret, callK_thr, decide_true, Bool.true_and, xNr, bI0, bIT, bIF, ne_eq, Classical.not_not, not_false_eq_true, false_or, List.length_nil, icM, ic_lt, ic_eq, le_nl, ↓reduceIte, Nat.lt_irrefl, ri_ws, ri_wn, ri_as, ri_an, upd_s, upd_n, rp_wi, rp_wa, rl_wi, rl_wa, rl_wp, rl_wpa, rl_wl, rp_wl, ri_wl, rp_wd, ri_wd, in_rng, Int32.lt_irrefl, Nat.not_lt_zero, pk_nc, Nat.reduceEqDiff, Nat.succ_ne_self, Nat.one_ne_zero, Nat.add_left_cancel_iff, ri_wpa, ri_wp, QLaw_law_75, QLaw_law_76, hs0, hs1, h1, h2, hth, hkn, lgs, ic_add]
theorem L_save (hI : Inv n0 N0 z0 q G m N z) (hq : q ≤ 512) (hS : Sta n0 S0 G) (hs : Scr n0 s len sc G) (h7 : 7 * p + 7 ≤ len) : Lc n0 S0 N0 z0 q s p 2944 l6 l7 l8 l9 G m N z := by
  have k303 : kd 303 = 25 := rfl
  have k304 : kd 304 = 26 := rfl
  have k292 : kd 292 = 18 := rfl
  have hs0 := hs G m (fun _ _ => rfl)
  obtain ⟨V, m1, m2, h1, h2, h5⟩ := Q_save (n0 := n0) (S0 := S0) hI hq
  have hs1 := hs G m1 (fun _ _ => rfl)
  refine ⟨G, m2, N, z, l6, l7, l8, l9, ?_, fun _ _ => rfl, h5⟩
  simp (disch := first | assumption | (show (_ : Nat) < _; omega) | (show (_ : Nat) ≠ _; omega) | (show (_ : Nat) ≤ _; omega) | exact Or.inl rfl | exact Or.inr rfl) only [hG0, hG1, hG2, hF0, hF1, hA0, hA1, xL, xC, icL, Option.bind_some, Nat.le_add_right, Nat.le_refl, if_true, if_false, and_self, true_and, and_true, or_false, false_or, or_true, true_or, and_false, false_and, not_true_eq_false, not_false_eq_true, Nat.reduceAdd, Nat.reduceLeDiff, Nat.reduceLT, Option.toList_some, Option.toList_none, List.cons_append, List.nil_append, callK_ret, callR_ret, callK_thr, decide_true, Bool.true_and, xNr, bI0, bIT, bIF, ne_eq, Classical.not_not, not_false_eq_true, false_or, List.length_nil, icM, ic_lt, ic_eq, le_nl, ↓reduceIte, Nat.lt_irrefl, ri_ws, ri_wn, ri_as, ri_an, upd_s, upd_n, rp_wi, rp_wa, rl_wi, rl_wa, rl_wp, rl_wpa, rl_wl, rp_wl, ri_wl, rp_wd, ri_wd, in_rng, Int32.lt_irrefl, Nat.not_lt_zero, pk_nc, Nat.reduceEqDiff, Nat.succ_ne_self, Nat.one_ne_zero, Nat.add_left_cancel_iff, ri_wpa, ri_wp, QLaw_law_76, QLaw_law_77, hs0, hs1, h1, h2, lgs, ic_add]
theorem L_restore (hI : Inv n0 N0 z0 q G m N z) (hq : q ≤ 512) (hS : Sta n0 S0 G) (hs : Scr n0 s len sc G) (h7 : 7 * p + 7 ≤ len) : Lc n0 S0 N0 z0 q s p 2957 l6 l7 l8 l9 G m N z := by
  have k303 : kd 303 = 25 := rfl
  have k304 : kd 304 = 26 := rfl
  have k292 : kd 292 = 18 := rfl
  have hs0 := hs G m (fun _ _ => rfl)
  obtain ⟨k, G1, m1, N1, z1, v, m2, hk, h1, hG, h2, h3, h4, h5⟩ := W_restore (P_restore (S0 := S0) hI hq)
  have hs1 := hs G1 m1 hG
  have hth : Mt (n0, S0) 41 128 [.ref (n0 + 292)] (hp n0 G1 m2, N1, z1) = _ := m_thrown (n0 := n0) (S0 := S0) (G := G1) (N := N1) (z := z1) (m := m2) (d := 40)
  rw [h3] at hth
  by_cases hk0 : k = 0
  · subst hk0
    have h4 := h4 rfl
    refine ⟨G1, m2, N1, z1, some (.int (ic 0)), some (.int v), l8, l9, ?_, hG, h5⟩
    simp (disch := first | assumption | (show (_ : Nat) < _; omega) | (show (_ : Nat) ≠ _; omega) | (show (_ : Nat) ≤ _; omega) | exact Or.inl rfl | exact Or.inr rfl) only [hG0, hG1, hG2, hF0, hF1, hA0, hA1, xL, xC, icL, Option.bind_some, Nat.le_add_right, Nat.le_refl, if_true, if_false, and_self, true_and, and_true, or_false, false_or, or_true, true_or, and_false, false_and, not_true_eq_false, not_false_eq_true, Nat.reduceAdd, Nat.reduceLeDiff, Nat.reduceLT, Option.toList_some, Option.toList_none, List.cons_append, List.nil_append, callK_ret, callR_ret, callK_thr, decide_true, Bool.true_and, xNr, bI0, bIT, bIF, ne_eq, Classical.not_not, not_false_eq_true, false_or, List.length_nil, icM, ic_lt, ic_eq, le_nl, ↓reduceIte, Nat.lt_irrefl, ri_ws, ri_wn, ri_as, ri_an, upd_s, upd_n, rp_wi, rp_wa, rl_wi, rl_wa, rl_wp, rl_wpa, rl_wl, rp_wl, ri_wl, rp_wd, ri_wd, in_rng, Int32.lt_irrefl, Nat.not_lt_zero, pk_nc, Nat.reduceEqDiff, Nat.succ_ne_self, Nat.one_ne_zero, Nat.add_left_cancel_iff, ri_wpa, ri_wp, QLaw_law_77, QLaw_law_78, hs0, hs1, h1, h2, hth, h4, lgs, ic_add]
  · have hkn : ¬ ic k = ic 0 := fun y => hk0 (by rw [ic_eq (by omega) (by omega)] at y; exact y)
    refine ⟨G1, m2, N1, z1, some (.int (ic k)), some (.int v), l8, l9, ?_, hG, h5⟩
    simp (disch := first | assumption | (show (_ : Nat) < _; omega) | (show (_ : Nat) ≠ _; omega) | (show (_ : Nat) ≤ _; omega) | exact Or.inl rfl | exact Or.inr rfl) only [hG0, hG1, hG2, hF0, hF1, hA0, hA1, xL, xC, icL, Option.bind_some, Nat.le_add_right, Nat.le_refl, if_true, if_false, and_self, true_and, and_true, or_false, false_or, or_true, true_or, and_false, false_and, not_true_eq_false, not_false_eq_true, Nat.reduceAdd, Nat.reduceLeDiff, Nat.reduceLT, Option.toList_some, Option.toList_none, List.cons_append, List.nil_append, callK_ret, callR_ret, callK_thr, decide_true, Bool.true_and, xNr, bI0, bIT, bIF, ne_eq, Classical.not_not, not_false_eq_true, false_or, List.length_nil, icM, ic_lt, ic_eq, le_nl, ↓reduceIte, Nat.lt_irrefl, ri_ws, ri_wn, ri_as, ri_an, upd_s, upd_n, rp_wi, rp_wa, rl_wi, rl_wa, rl_wp, rl_wpa, rl_wl, rp_wl, ri_wl, rp_wd, ri_wd, in_rng, Int32.lt_irrefl, Nat.not_lt_zero, pk_nc, Nat.reduceEqDiff, Nat.succ_ne_self, Nat.one_ne_zero, Nat.add_left_cancel_iff, ri_wpa, ri_wp, QLaw_law_77, QLaw_law_78, hs0, hs1, h1, h2, hth, hkn, lgs, ic_add]
end L2c
