/-! the reference's numbers written; expanded by wip/whole/px.py out of wip/whole/m14.src -/
theorem p10 : (10 : Nat) ^ 0 = 1 ∧ (10 : Nat) ^ 1 = 10 ∧ (10 : Nat) ^ 2 = 100 ∧ (10 : Nat) ^ 3 = 1000 ∧ (10 : Nat) ^ 4 = 10000 := ⟨rfl, rfl, rfl, rfl, rfl⟩
theorem dgn_pw {v k : Nat} (h : v < 100000) (hk : k < 5) : (9 < v / 10 ^ k) = (k + 1 < dgn v) := by
  obtain ⟨p0, p1, p2, p3, p4⟩ := p10
  unfold dgn
  apply propext
  rcases (show k = 0 ∨ k = 1 ∨ k = 2 ∨ k = 3 ∨ k = 4 by omega) with rfl | rfl | rfl | rfl | rfl
  all_goals first | rw [p0] | rw [p1] | rw [p2] | rw [p3] | rw [p4]
  all_goals (repeat' split) <;> omega
theorem pw_b {k : Nat} (h : k < 5) : 1 ≤ 10 ^ k ∧ 10 ^ k ≤ 10000 := by
  rcases (show k = 0 ∨ k = 1 ∨ k = 2 ∨ k = 3 ∨ k = 4 by omega) with rfl | rfl | rfl | rfl | rfl <;> decide
/-- the first j digits written -/
def wrJ (s : tx) (v j : Nat) : tx := (s.1 + j, fun i => if s.1 ≤ i ∧ i < s.1 + j then 48 + v / 10 ^ (s.1 + dgn v - 1 - i) % 10 else s.2 i)
theorem wrJ_0 (s : tx) (v : Nat) : wrJ s v 0 = s := by
  obtain ⟨c, f⟩ := s
  unfold wrJ
  dsimp only
  congr 1
  funext i
  rw [if_neg (by omega)]
theorem wrJ_s {s : tx} {v j : Nat} (hj : j < dgn v) : wC (wrJ s v j) (48 + v / 10 ^ (dgn v - 1 - j) % 10) = wrJ s v (j + 1) := by
  unfold wC wrJ
  dsimp only
  congr 1
  funext i
  unfold updN
  by_cases h : i = s.1 + j
  · rw [if_pos h, if_pos (by omega), show s.1 + dgn v - 1 - i = dgn v - 1 - j by omega]
  · rw [if_neg h]
    dsimp only
    by_cases h2 : s.1 ≤ i ∧ i < s.1 + j
    · rw [if_pos h2, if_pos (by omega)]
    · rw [if_neg h2, if_neg (by omega)]
theorem wrJ_all (s : tx) (v : Nat) : wrJ s v (dgn v) = wI s v := rfl
section M14
variable {n0 N z d : Nat} {S0 : Nat → Value} {G : sH} {m : mm}
theorem m_writeNumber {s : tx} {v : Nat} (hv : v < 100000) (hs : s.1 + dgn v ≤ 100) : Mt (n0, S0) (d + 2) 222 [.ref (n0 + 292), .int (ic v)] (hp n0 G (oM m s), N, z) = some (.inl none, (hp n0 G (oM m (wI s v)), N, z)) := by
  have k292 : kd 292 = 18 := rfl
  have hd := dgn_b v
  rw [NModel_writeNumber]
  simp (disch := first | assumption | (show (_ : Nat) < _; omega) | (show (_ : Nat) ≠ _; omega) | (show (_ : Nat) ≤ _; omega) | exact Or.inl rfl | exact Or.inr rfl) only [hG0, hG1, hG2, hF0, hF1, hA0, hA1, xL, xC, icL, Option.bind_some, Nat.le_add_right, Nat.le_refl, if_true, if_false, and_self, true_and, and_true, or_false, false_or, or_true, true_or, and_false, false_and, not_true_eq_false, not_false_eq_true, Nat.reduceAdd, Nat.reduceLeDiff, Nat.reduceLT, Option.toList_some, Option.toList_none, List.cons_append, List.nil_append, callK_ret, callR_ret, callK_thr, decide_true, Bool.true_and, xNr, bI0, bIT, bIF, ne_eq, Classical.not_not, not_false_eq_true, false_or, List.length_nil, icM, ic_lt, ic_eq, le_nl, ↓reduceIte, Nat.lt_irrefl, ri_ws, ri_wn, ri_as, ri_an, upd_s, upd_n, rp_wi, rp_wa, rl_wi, rl_wa, rl_wp, rl_wpa, rl_wl, rp_wl, ri_wl, rp_wd, ri_wd, in_rng, Int32.lt_irrefl, Nat.not_lt_zero, pk_nc, Nat.reduceEqDiff, Nat.succ_ne_self, Nat.one_ne_zero, Nat.add_left_cancel_iff, ri_wpa, ri_wp, QModel_writeNumber_0]
  have step1 : ∀ k, k < dgn v - 1 → Rx (n0, S0) (d + 1) 222 2 [some (.ref (n0 + 292)), some (.int (ic v)), some (.int (ic (10 ^ k)))] [] (hp n0 G (oM m s), N, z) = Rx (n0, S0) (d + 1) 222 2 [some (.ref (n0 + 292)), some (.int (ic v)), some (.int (ic (10 ^ (k + 1))))] [] (hp n0 G (oM m s), N, z) := by
    intro k hk
    have hp := pw_b (show k < 5 by omega)
    have hc := dgn_pw hv (show k < 5 by omega)
    have hcc : 9 < v / 10 ^ k := by rw [hc]; omega
    have hdv : ic v / ic (10 ^ k) = ic (v / 10 ^ k) := ic_div (by omega) (by omega)
    have hnz : ¬ ic (10 ^ k) = ic 0 := by rw [ic_eq (by omega) (by omega)]; omega
    have hml : ic (10 ^ k) * ic 10 = ic (10 ^ (k + 1)) := by rw [ic_mul, Nat.pow_succ]
    have hq : v / 10 ^ k ≤ v := Nat.div_le_self _ _
    have hgt : ic 9 < ic (v / 10 ^ k) := by rw [ic_lt (by omega) (by omega)]; exact hcc
    rw [HModel_writeNumber_2]
    generalize 10 ^ k = P at *
    generalize v / P = Q at *
    simp (disch := first | assumption | (show (_ : Nat) < _; omega) | (show (_ : Nat) ≠ _; omega) | (show (_ : Nat) ≤ _; omega) | exact Or.inl rfl | exact Or.inr rfl) only [hG0, hG1, hG2, hF0, hF1, hA0, hA1, xL, xC, icL, Option.bind_some, Nat.le_add_right, Nat.le_refl, if_true, if_false, and_self, true_and, and_true, or_false, false_or, or_true, true_or, and_false, false_and, not_true_eq_false, not_false_eq_true, Nat.reduceAdd, Nat.reduceLeDiff, Nat.reduceLT, Option.toList_some, Option.toList_none, List.cons_append, List.nil_append, callK_ret, callR_ret, callK_thr, decide_true, Bool.true_and, xNr, bI0, bIT, bIF, ne_eq, Classical.not_not, not_false_eq_true, false_or, List.length_nil, icM, ic_lt, ic_eq, le_nl, ↓reduceIte, Nat.lt_irrefl, ri_ws, ri_wn, ri_as, ri_an, upd_s, upd_n, rp_wi, rp_wa, rl_wi, rl_wa, rl_wp, rl_wpa, rl_wl, rp_wl, ri_wl, rp_wd, ri_wd, in_rng, Int32.lt_irrefl, Nat.not_lt_zero, pk_nc, Nat.reduceEqDiff, Nat.succ_ne_self, Nat.one_ne_zero, Nat.add_left_cancel_iff, ri_wpa, ri_wp, QModel_writeNumber_0, hnz, hdv, hgt, hml, hcc]
  have hs1 := iter (fun k => Rx (n0, S0) (d + 1) 222 2 [some (.ref (n0 + 292)), some (.int (ic v)), some (.int (ic (10 ^ k)))] [] (hp n0 G (oM m s), N, z)) (dgn v - 1) step1
  refine Eq.trans hs1 ?_
  have h18 : Rx (n0, S0) (d + 1) 222 2 [some (.ref (n0 + 292)), some (.int (ic v)), some (.int (ic (10 ^ (dgn v - 1))))] [] (hp n0 G (oM m s), N, z) = Rx (n0, S0) (d + 1) 222 18 [some (.ref (n0 + 292)), some (.int (ic v)), some (.int (ic (10 ^ (dgn v - 1))))] [] (hp n0 G (oM m s), N, z) := by
    have hp := pw_b (show dgn v - 1 < 5 by omega)
    have hc := dgn_pw hv (show dgn v - 1 < 5 by omega)
    have hcc : ¬ 9 < v / 10 ^ (dgn v - 1) := by rw [hc]; omega
    have hdv : ic v / ic (10 ^ (dgn v - 1)) = ic (v / 10 ^ (dgn v - 1)) := ic_div (by omega) (by omega)
    have hnz : ¬ ic (10 ^ (dgn v - 1)) = ic 0 := by rw [ic_eq (by omega) (by omega)]; omega
    have hq : v / 10 ^ (dgn v - 1) ≤ v := Nat.div_le_self _ _
    rw [HModel_writeNumber_2]
    generalize 10 ^ (dgn v - 1) = P at *
    generalize v / P = Q at *
    simp (disch := first | assumption | (show (_ : Nat) < _; omega) | (show (_ : Nat) ≠ _; omega) | (show (_ : Nat) ≤ _; omega) | exact Or.inl rfl | exact Or.inr rfl) only [hG0, hG1, hG2, hF0, hF1, hA0, hA1, xL, xC, icL, Option.bind_some, Nat.le_add_right, Nat.le_refl, if_true, if_false, and_self, true_and, and_true, or_false, false_or, or_true, true_or, and_false, false_and, not_true_eq_false, not_false_eq_true, Nat.reduceAdd, Nat.reduceLeDiff, Nat.reduceLT, Option.toList_some, Option.toList_none, List.cons_append, List.nil_append, callK_ret, callR_ret, callK_thr, decide_true, Bool.true_and, xNr, bI0, bIT, bIF, ne_eq, Classical.not_not, not_false_eq_true, false_or, List.length_nil, icM, ic_lt, ic_eq, le_nl, ↓reduceIte, Nat.lt_irrefl, ri_ws, ri_wn, ri_as, ri_an, upd_s, upd_n, rp_wi, rp_wa, rl_wi, rl_wa, rl_wp, rl_wpa, rl_wl, rp_wl, ri_wl, rp_wd, ri_wd, in_rng, Int32.lt_irrefl, Nat.not_lt_zero, pk_nc, Nat.reduceEqDiff, Nat.succ_ne_self, Nat.one_ne_zero, Nat.add_left_cancel_iff, ri_wpa, ri_wp, QModel_writeNumber_0, hnz, hdv, hcc]
  refine Eq.trans h18 ?_
  have step2 : ∀ j, j < dgn v → Rx (n0, S0) (d + 1) 222 18 [some (.ref (n0 + 292)), some (.int (ic v)), some (.int (ic (if j < dgn v then 10 ^ (dgn v - 1 - j) else 0)))] [] (hp n0 G (oM m (wrJ s v j)), N, z) = Rx (n0, S0) (d + 1) 222 18 [some (.ref (n0 + 292)), some (.int (ic v)), some (.int (ic (if j + 1 < dgn v then 10 ^ (dgn v - 1 - (j + 1)) else 0)))] [] (hp n0 G (oM m (wrJ s v (j + 1))), N, z) := by
    intro j hj
    have hp := pw_b (show dgn v - 1 - j < 5 by omega)
    have hdv : ic v / ic (10 ^ (dgn v - 1 - j)) = ic (v / 10 ^ (dgn v - 1 - j)) := ic_div (by omega) (by omega)
    have hnz : ¬ ic (10 ^ (dgn v - 1 - j)) = ic 0 := by rw [ic_eq (by omega) (by omega)]; omega
    have hpos : ic 0 < ic (10 ^ (dgn v - 1 - j)) := by rw [ic_lt (by omega) (by omega)]; omega
    have hpos2 : 0 < 10 ^ (dgn v - 1 - j) := by omega
    have hq : v / 10 ^ (dgn v - 1 - j) ≤ v := Nat.div_le_self _ _
    have hnext : 10 ^ (dgn v - 1 - j) / 10 = if j + 1 < dgn v then 10 ^ (dgn v - 1 - (j + 1)) else 0 := by
      by_cases h : j + 1 < dgn v
      · rw [if_pos h, show dgn v - 1 - j = (dgn v - 1 - (j + 1)) + 1 by omega, Nat.pow_succ, Nat.mul_div_cancel _ (by decide)]
      · rw [if_neg h, show dgn v - 1 - j = 0 by omega]
    have hd10 : ic (10 ^ (dgn v - 1 - j)) / ic 10 = ic (if j + 1 < dgn v then 10 ^ (dgn v - 1 - (j + 1)) else 0) := by rw [ic_div (by omega) (by omega), hnext]
    have hwr := m_write (n0 := n0) (S0 := S0) (G := G) (m := m) (N := N) (z := z) (d := d) (s := wrJ s v j) (x := 48 + v / 10 ^ (dgn v - 1 - j) % 10) (by show s.1 + j < 100; omega)
    rw [wrJ_s hj] at hwr
    rw [if_pos hj, HModel_writeNumber_18]
    generalize (if j + 1 < dgn v then 10 ^ (dgn v - 1 - (j + 1)) else 0) = P2 at *
    generalize 10 ^ (dgn v - 1 - j) = P at *
    generalize v / P = Q at *
    have hm1 : ic Q / ic 10 = ic (Q / 10) := ic_div (by omega) (by omega)
    have hm2 : ic Q - ic (Q / 10) * ic 10 = ic (Q % 10) := by rw [ic_mul, ic_sub (by omega)]; congr 1; omega
    simp (disch := first | assumption | (show (_ : Nat) < _; omega) | (show (_ : Nat) ≠ _; omega) | (show (_ : Nat) ≤ _; omega) | exact Or.inl rfl | exact Or.inr rfl) only [hG0, hG1, hG2, hF0, hF1, hA0, hA1, xL, xC, icL, Option.bind_some, Nat.le_add_right, Nat.le_refl, if_true, if_false, and_self, true_and, and_true, or_false, false_or, or_true, true_or, and_false, false_and, not_true_eq_false, not_false_eq_true, Nat.reduceAdd, Nat.reduceLeDiff, Nat.reduceLT, Option.toList_some, Option.toList_none, List.cons_append, List.nil_append, callK_ret, callR_ret, callK_thr, decide_true, Bool.true_and, xNr, bI0, bIT, bIF, ne_eq, Classical.not_not, not_false_eq_true, false_or, List.length_nil, icM, ic_lt, ic_eq, le_nl, ↓reduceIte, Nat.lt_irrefl, ri_ws, ri_wn, ri_as, ri_an, upd_s, upd_n, rp_wi, rp_wa, rl_wi, rl_wa, rl_wp, rl_wpa, rl_wl, rp_wl, ri_wl, rp_wd, ri_wd, in_rng, Int32.lt_irrefl, Nat.not_lt_zero, pk_nc, Nat.reduceEqDiff, Nat.succ_ne_self, Nat.one_ne_zero, Nat.add_left_cancel_iff, ri_wpa, ri_wp, QModel_writeNumber_0, hpos2, hnz, hdv, hm1, hm2, ic_add, hwr, hd10]
  have e0 : (if 0 < dgn v then 10 ^ (dgn v - 1 - 0) else 0) = 10 ^ (dgn v - 1) := by rw [if_pos (by omega)]; rfl
  have hs2 := iter (fun j => Rx (n0, S0) (d + 1) 222 18 [some (.ref (n0 + 292)), some (.int (ic v)), some (.int (ic (if j < dgn v then 10 ^ (dgn v - 1 - j) else 0)))] [] (hp n0 G (oM m (wrJ s v j)), N, z)) (dgn v) step2
  rw [e0, wrJ_0, if_neg (Nat.lt_irrefl _), wrJ_all] at hs2
  refine Eq.trans hs2 ?_
  rw [HModel_writeNumber_18]
  simp (disch := first | assumption | (show (_ : Nat) < _; omega) | (show (_ : Nat) ≠ _; omega) | (show (_ : Nat) ≤ _; omega) | exact Or.inl rfl | exact Or.inr rfl) only [hG0, hG1, hG2, hF0, hF1, hA0, hA1, xL, xC, icL, Option.bind_some, Nat.le_add_right, Nat.le_refl, if_true, if_false, and_self, true_and, and_true, or_false, false_or, or_true, true_or, and_false, false_and, not_true_eq_false, not_false_eq_true, Nat.reduceAdd, Nat.reduceLeDiff, Nat.reduceLT, Option.toList_some, Option.toList_none, List.cons_append, List.nil_append, callK_ret, callR_ret, callK_thr, decide_true, Bool.true_and, xNr, bI0, bIT, bIF, ne_eq, Classical.not_not, not_false_eq_true, false_or, List.length_nil, icM, ic_lt, ic_eq, le_nl, ↓reduceIte, Nat.lt_irrefl, ri_ws, ri_wn, ri_as, ri_an, upd_s, upd_n, rp_wi, rp_wa, rl_wi, rl_wa, rl_wp, rl_wpa, rl_wl, rp_wl, ri_wl, rp_wd, ri_wd, in_rng, Int32.lt_irrefl, Nat.not_lt_zero, pk_nc, Nat.reduceEqDiff, Nat.succ_ne_self, Nat.one_ne_zero, Nat.add_left_cancel_iff, ri_wpa, ri_wp, QModel_writeNumber_0]
end M14
