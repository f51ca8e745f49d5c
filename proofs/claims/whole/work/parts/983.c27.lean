/-! the JDK's decimal digits; expanded by wip/whole/px.py out of wip/whole/c27.src -/
/-- how many digits -/
def dgn (n : Nat) : Nat := if n < 10 then 1 else if n < 100 then 2 else if n < 1000 then 3 else if n < 10000 then 4 else 5
theorem dgn_b (n : Nat) : 1 ≤ dgn n ∧ dgn n ≤ 5 := by
  unfold dgn
  repeat' split
  all_goals omega
section C27
variable {n0 N z d : Nat} {S0 : Nat → Value} {G : sH} {m : mm}
theorem ngl {a b : Nat} (h1 : a < 2147483648) (h2 : b < 2147483648) : (-ic a < -ic b) = (b < a) := by
  rw [Int32.lt_iff_toInt_lt, Int32.toInt_neg, Int32.toInt_neg, ic_toInt h1, ic_toInt h2]
  have e : ((2 ^ 32 : Nat) : Int) = 4294967296 := rfl
  apply propext
  unfold Int.bmod
  dsimp only
  rw [e]
  split <;> split <;> omega
theorem n_div {a : Nat} (h : a < 2147483648) : -ic a / ic 100 = -ic (a / 100) := by
  apply Int32.toInt_inj.mp
  rw [Int32.toInt_div, Int32.toInt_neg, Int32.toInt_neg, ic_toInt h, ic_toInt (by omega), ic_toInt (by omega)]
  have e : ((2 ^ 32 : Nat) : Int) = 4294967296 := rfl
  have hb : ∀ q : Nat, q < 2147483648 → (-(q : Int)).bmod (2 ^ 32) = -(q : Int) := by
    intro q hq
    unfold Int.bmod
    dsimp only
    rw [e]
    split <;> omega
  rw [hb a h, Int.neg_tdiv]
  exact congrArg (fun x : Int => (-x).bmod (2 ^ 32)) (Int.ofNat_tdiv a 100).symm
theorem n_mod (a : Nat) : -ic (a / 100) * ic 100 - -ic a = ic (a % 100) := by
  rw [Int32.neg_mul, ic_mul, Int32.sub_eq_add_neg, Int32.neg_neg, Int32.add_comm, ← Int32.sub_eq_add_neg, ic_sub (by omega)]
  congr 1
  omega
theorem j_stringSize {n : Nat} (h : n < 100000) (σ : sS) : Mt (n0, S0) (d + 1) 318 [.int (ic n)] σ = some (.inl (some (.int (ic (dgn n)))), σ) := by
  have p1 : ic 10 * -ic 10 = -ic 100 := by decide
  have p2 : ic 10 * -ic 100 = -ic 1000 := by decide
  have p3 : ic 10 * -ic 1000 = -ic 10000 := by decide
  have p4 : ic 10 * -ic 10000 = -ic 100000 := by decide
  rw [NInteger_stringSize]
  unfold dgn
  by_cases h1 : n < 10
  · rw [if_pos h1]
    simp (disch := first | assumption | (show (_ : Nat) < _; omega) | (show (_ : Nat) ≠ _; omega) | (show (_ : Nat) ≤ _; omega) | exact Or.inl rfl | exact Or.inr rfl) only [hG0, hG1, hG2, hF0, hF1, hA0, hA1, xL, xC, icL, Option.bind_some, Nat.le_add_right, Nat.le_refl, if_true, if_false, and_self, true_and, and_true, or_false, false_or, or_true, true_or, and_false, false_and, not_true_eq_false, not_false_eq_true, Nat.reduceAdd, Nat.reduceLeDiff, Nat.reduceLT, Option.toList_some, Option.toList_none, List.cons_append, List.nil_append, callK_ret, callR_ret, callK_thr, decide_true, Bool.true_and, xNr, bI0, bIT, bIF, ne_eq, Classical.not_not, not_false_eq_true, false_or, List.length_nil, icM, ic_lt, ic_eq, le_nl, ↓reduceIte, Nat.lt_irrefl, ri_ws, ri_wn, ri_as, ri_an, upd_s, upd_n, rp_wi, rp_wa, rl_wi, rl_wa, rl_wp, rl_wpa, rl_wl, rp_wl, ri_wl, rp_wd, ri_wd, in_rng, Int32.lt_irrefl, Nat.not_lt_zero, pk_nc, Nat.reduceEqDiff, Nat.succ_ne_self, Nat.one_ne_zero, Nat.add_left_cancel_iff, ri_wpa, ri_wp, QInteger_stringSize_0, QInteger_stringSize_1, HInteger_stringSize_16, ngl, h1, ic_add]
  · rw [if_neg h1]
    by_cases h2 : n < 100
    · rw [if_pos h2]
      simp (disch := first | assumption | (show (_ : Nat) < _; omega) | (show (_ : Nat) ≠ _; omega) | (show (_ : Nat) ≤ _; omega) | exact Or.inl rfl | exact Or.inr rfl) only [hG0, hG1, hG2, hF0, hF1, hA0, hA1, xL, xC, icL, Option.bind_some, Nat.le_add_right, Nat.le_refl, if_true, if_false, and_self, true_and, and_true, or_false, false_or, or_true, true_or, and_false, false_and, not_true_eq_false, not_false_eq_true, Nat.reduceAdd, Nat.reduceLeDiff, Nat.reduceLT, Option.toList_some, Option.toList_none, List.cons_append, List.nil_append, callK_ret, callR_ret, callK_thr, decide_true, Bool.true_and, xNr, bI0, bIT, bIF, ne_eq, Classical.not_not, not_false_eq_true, false_or, List.length_nil, icM, ic_lt, ic_eq, le_nl, ↓reduceIte, Nat.lt_irrefl, ri_ws, ri_wn, ri_as, ri_an, upd_s, upd_n, rp_wi, rp_wa, rl_wi, rl_wa, rl_wp, rl_wpa, rl_wl, rp_wl, ri_wl, rp_wd, ri_wd, in_rng, Int32.lt_irrefl, Nat.not_lt_zero, pk_nc, Nat.reduceEqDiff, Nat.succ_ne_self, Nat.one_ne_zero, Nat.add_left_cancel_iff, ri_wpa, ri_wp, QInteger_stringSize_0, QInteger_stringSize_1, HInteger_stringSize_16, ngl, h1, h2, p1, ic_add]
    · rw [if_neg h2]
      by_cases h3 : n < 1000
      · rw [if_pos h3]
        simp (disch := first | assumption | (show (_ : Nat) < _; omega) | (show (_ : Nat) ≠ _; omega) | (show (_ : Nat) ≤ _; omega) | exact Or.inl rfl | exact Or.inr rfl) only [hG0, hG1, hG2, hF0, hF1, hA0, hA1, xL, xC, icL, Option.bind_some, Nat.le_add_right, Nat.le_refl, if_true, if_false, and_self, true_and, and_true, or_false, false_or, or_true, true_or, and_false, false_and, not_true_eq_false, not_false_eq_true, Nat.reduceAdd, Nat.reduceLeDiff, Nat.reduceLT, Option.toList_some, Option.toList_none, List.cons_append, List.nil_append, callK_ret, callR_ret, callK_thr, decide_true, Bool.true_and, xNr, bI0, bIT, bIF, ne_eq, Classical.not_not, not_false_eq_true, false_or, List.length_nil, icM, ic_lt, ic_eq, le_nl, ↓reduceIte, Nat.lt_irrefl, ri_ws, ri_wn, ri_as, ri_an, upd_s, upd_n, rp_wi, rp_wa, rl_wi, rl_wa, rl_wp, rl_wpa, rl_wl, rp_wl, ri_wl, rp_wd, ri_wd, in_rng, Int32.lt_irrefl, Nat.not_lt_zero, pk_nc, Nat.reduceEqDiff, Nat.succ_ne_self, Nat.one_ne_zero, Nat.add_left_cancel_iff, ri_wpa, ri_wp, QInteger_stringSize_0, QInteger_stringSize_1, HInteger_stringSize_16, ngl, h1, h2, h3, p1, p2, ic_add]
      · rw [if_neg h3]
        by_cases h4 : n < 10000
        · rw [if_pos h4]
          simp (disch := first | assumption | (show (_ : Nat) < _; omega) | (show (_ : Nat) ≠ _; omega) | (show (_ : Nat) ≤ _; omega) | exact Or.inl rfl | exact Or.inr rfl) only [hG0, hG1, hG2, hF0, hF1, hA0, hA1, xL, xC, icL, Option.bind_some, Nat.le_add_right, Nat.le_refl, if_true, if_false, and_self, true_and, and_true, or_false, false_or, or_true, true_or, and_false, false_and, not_true_eq_false, not_false_eq_true, Nat.reduceAdd, Nat.reduceLeDiff, Nat.reduceLT, Option.toList_some, Option.toList_none, List.cons_append, List.nil_append, callK_ret, callR_ret, callK_thr, decide_true, Bool.true_and, xNr, bI0, bIT, bIF, ne_eq, Classical.not_not, not_false_eq_true, false_or, List.length_nil, icM, ic_lt, ic_eq, le_nl, ↓reduceIte, Nat.lt_irrefl, ri_ws, ri_wn, ri_as, ri_an, upd_s, upd_n, rp_wi, rp_wa, rl_wi, rl_wa, rl_wp, rl_wpa, rl_wl, rp_wl, ri_wl, rp_wd, ri_wd, in_rng, Int32.lt_irrefl, Nat.not_lt_zero, pk_nc, Nat.reduceEqDiff, Nat.succ_ne_self, Nat.one_ne_zero, Nat.add_left_cancel_iff, ri_wpa, ri_wp, QInteger_stringSize_0, QInteger_stringSize_1, HInteger_stringSize_16, ngl, h1, h2, h3, h4, p1, p2, p3, ic_add]
        · rw [if_neg h4]
          simp (disch := first | assumption | (show (_ : Nat) < _; omega) | (show (_ : Nat) ≠ _; omega) | (show (_ : Nat) ≤ _; omega) | exact Or.inl rfl | exact Or.inr rfl) only [hG0, hG1, hG2, hF0, hF1, hA0, hA1, xL, xC, icL, Option.bind_some, Nat.le_add_right, Nat.le_refl, if_true, if_false, and_self, true_and, and_true, or_false, false_or, or_true, true_or, and_false, false_and, not_true_eq_false, not_false_eq_true, Nat.reduceAdd, Nat.reduceLeDiff, Nat.reduceLT, Option.toList_some, Option.toList_none, List.cons_append, List.nil_append, callK_ret, callR_ret, callK_thr, decide_true, Bool.true_and, xNr, bI0, bIT, bIF, ne_eq, Classical.not_not, not_false_eq_true, false_or, List.length_nil, icM, ic_lt, ic_eq, le_nl, ↓reduceIte, Nat.lt_irrefl, ri_ws, ri_wn, ri_as, ri_an, upd_s, upd_n, rp_wi, rp_wa, rl_wi, rl_wa, rl_wp, rl_wpa, rl_wl, rp_wl, ri_wl, rp_wd, ri_wd, in_rng, Int32.lt_irrefl, Nat.not_lt_zero, pk_nc, Nat.reduceEqDiff, Nat.succ_ne_self, Nat.one_ne_zero, Nat.add_left_cancel_iff, ri_wpa, ri_wp, QInteger_stringSize_0, QInteger_stringSize_1, HInteger_stringSize_16, ngl, h, h1, h2, h3, h4, p1, p2, p3, p4, ic_add]
end C27
