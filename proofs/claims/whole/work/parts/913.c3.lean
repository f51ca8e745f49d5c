/-! the class's State: what changes it; expanded by wip/whole/px.py out of wip/whole/c3.src -/
section C3
variable {n0 N z d b : Nat} {S0 : Nat → Value} {G : sH} {m : mm}
/-- the jobs' order in the midst of a closing -/
def shA (m : mm) (b at_ i : Nat) : mm := wpa m (b + 1) (fun j => if at_ ≤ j ∧ j + 1 < i then rp m (b + 1) (j + 1) else rp m (b + 1) j)
def clA (m : mm) (b at_ n : Nat) : mm := wpa m (b + 1) (fun j => if at_ ≤ j ∧ j + 1 < n then rp m (b + 1) (j + 1) else if j + 1 = n then rp m (b + 1) at_ else rp m (b + 1) j)
theorem shA_rp {at_ i j : Nat} (h : i ≤ j + 1) : rp (shA m b at_ i) (b + 1) j = rp m (b + 1) j := by
  unfold shA
  rw [rp_wpa, if_pos rfl, if_neg (by omega)]
theorem shA_le {at_ i : Nat} (h : i ≤ at_ + 1) : shA m b at_ i = m := by
  unfold shA
  refine (wpa_congr (fun j => ?_)).trans (wpa_id m (b + 1))
  rw [if_neg (by omega)]
theorem shA_step {at_ i : Nat} (h : at_ + 1 ≤ i) : wp (shA m b at_ i) (b + 1) (i - 1) (rp m (b + 1) i) = shA m b at_ (i + 1) := by
  unfold shA
  rw [wp_wpa]
  refine wpa_congr (fun j => ?_)
  by_cases e : j = i - 1
  · subst e
    rw [if_pos rfl, if_pos (by omega), show i - 1 + 1 = i by omega]
  · rw [if_neg e]
    by_cases h2 : at_ ≤ j ∧ j + 1 < i
    · rw [if_pos h2, if_pos (by omega)]
    · rw [if_neg h2, if_neg (by omega)]
theorem clA_of {at_ n : Nat} (h : at_ < n) : wp (shA m b at_ n) (b + 1) (n - 1) (rp m (b + 1) at_) = clA m b at_ n := by
  unfold shA clA
  rw [wp_wpa]
  refine wpa_congr (fun j => ?_)
  by_cases e : j = n - 1
  · subst e
    rw [if_pos rfl, if_neg (by omega), if_pos (by omega)]
  · rw [if_neg e]
    by_cases h2 : at_ ≤ j ∧ j + 1 < n
    · rw [if_pos h2, if_pos h2]
    · rw [if_neg h2, if_neg h2, if_neg (by omega)]
theorem wp_id (m : mm) (k i : Nat) : wp m k i (rp m k i) = m := by
  rw [show wp m k i (rp m k i) = wp (wpa m k (rp m k)) k i (rp m k i) by rw [wpa_id], wp_wpa]
  refine (wpa_congr (fun j => ?_)).trans (wpa_id m k)
  split
  · rename_i h
    rw [h]
  · rfl
theorem c_close (hb : isS b) (hJ : JV m b) {n : Nat} (hn : ri m b 1 = ic n) (h12 : n ≤ 12) {at_ : Nat} (ha : at_ < n) : Mt (n0, S0) (d + 1) 47 [.ref (n0 + b), .ref (n0 + rp m (b + 1) at_)] (hp n0 G m, N, z) = some (.inl none, (hp n0 G (wi (clA m b at_ n) b 1 (ic (n - 1))), N, z)) := by
  obtain ⟨s0, s1, s2, s3, s4⟩ := kd_S0 hb
  rw [NState_close]
  simp (disch := first | assumption | omega) only [hG0, hG1, hG2, hF0, hF1, hA0, hA1, xL, xC, icL, Option.bind_some, Nat.le_add_right, Nat.le_refl, if_true, if_false, and_self, true_and, and_true, or_false, false_or, or_true, true_or, and_false, false_and, not_true_eq_false, not_false_eq_true, Nat.reduceAdd, Nat.reduceLeDiff, Nat.reduceLT, Option.toList_some, Option.toList_none, List.cons_append, List.nil_append, callK_ret, callR_ret, callK_thr, decide_true, Bool.true_and, xNr, bI0, bIT, bIF, ne_eq, Classical.not_not, not_false_eq_true, false_or, List.length_nil, ic_lt, ic_eq, le_nl, ↓reduceIte, Nat.lt_irrefl, ri_ws, ri_wn, ri_as, ri_an, upd_s, upd_n, rp_wi, rp_wa, rl_wi, rl_wa, rl_wp, rl_wpa, rp_wl, ri_wl, rp_wd, ri_wd, in_rng, Int32.lt_irrefl, Nat.not_lt_zero, pk_nc, Nat.reduceEqDiff, Nat.succ_ne_self, Nat.one_ne_zero, Nat.add_left_cancel_iff, ri_wpa, ri_wp, QState_close_0, QState_close_1]
  have step : ∀ i, i < n → Rx (n0, S0) d 47 4 [some (.ref (n0 + b)), some (.ref (n0 + rp m (b + 1) at_)), some (.int (ic (if i ≤ at_ then i else i - 1))), some (.int (ic i))] [] (hp n0 G (shA m b at_ i), N, z) = Rx (n0, S0) d 47 4 [some (.ref (n0 + b)), some (.ref (n0 + rp m (b + 1) at_)), some (.int (ic (if i + 1 ≤ at_ then i + 1 else i + 1 - 1))), some (.int (ic (i + 1)))] [] (hp n0 G (shA m b at_ (i + 1)), N, z) := by
    intro i hi
    rw [HState_close_4]
    have h1 : i < n := by omega
    have hk := hJ.kd hb (show i < 12 by omega)
    have hn' : ri (shA m b at_ i) b 1 = ic n := hn
    have hr : rp (shA m b at_ i) (b + 1) i = rp m (b + 1) i := shA_rp (by omega)
    rcases Nat.lt_trichotomy i at_ with h | h | h
    · have e1 : (if i ≤ at_ then i else i - 1) = i := if_pos (by omega)
      have e2 : (if i + 1 ≤ at_ then i + 1 else i + 1 - 1) = i + 1 := if_pos (by omega)
      have e3 : ¬ rp m (b + 1) i = rp m (b + 1) at_ := fun z => by have := hJ.2 i (by omega) at_ (by omega) z; omega
      have e4 : shA m b at_ i = m := shA_le (by omega)
      have e5 : shA m b at_ (i + 1) = m := shA_le (by omega)
      rw [e4] at hr
      simp (disch := first | assumption | omega) only [hG0, hG1, hG2, hF0, hF1, hA0, hA1, xL, xC, icL, Option.bind_some, Nat.le_add_right, Nat.le_refl, if_true, if_false, and_self, true_and, and_true, or_false, false_or, or_true, true_or, and_false, false_and, not_true_eq_false, not_false_eq_true, Nat.reduceAdd, Nat.reduceLeDiff, Nat.reduceLT, Option.toList_some, Option.toList_none, List.cons_append, List.nil_append, callK_ret, callR_ret, callK_thr, decide_true, Bool.true_and, xNr, bI0, bIT, bIF, ne_eq, Classical.not_not, not_false_eq_true, false_or, List.length_nil, ic_lt, ic_eq, le_nl, ↓reduceIte, Nat.lt_irrefl, ri_ws, ri_wn, ri_as, ri_an, upd_s, upd_n, rp_wi, rp_wa, rl_wi, rl_wa, rl_wp, rl_wpa, rp_wl, ri_wl, rp_wd, ri_wd, in_rng, Int32.lt_irrefl, Nat.not_lt_zero, pk_nc, Nat.reduceEqDiff, Nat.succ_ne_self, Nat.one_ne_zero, Nat.add_left_cancel_iff, ri_wpa, ri_wp, QState_close_0, QState_close_1, hn, h1, hk, hr, e1, e2, e3, e4, e5, ic_add, wp_id]
    · have e1 : (if i ≤ at_ then i else i - 1) = i := if_pos (by omega)
      have e2 : (if i + 1 ≤ at_ then i + 1 else i + 1 - 1) = i := (if_neg (by omega)).trans (by omega)
      have e4 : shA m b at_ i = m := shA_le (by omega)
      have e5 : shA m b at_ (i + 1) = m := shA_le (by omega)
      subst h
      simp (disch := first | assumption | omega) only [hG0, hG1, hG2, hF0, hF1, hA0, hA1, xL, xC, icL, Option.bind_some, Nat.le_add_right, Nat.le_refl, if_true, if_false, and_self, true_and, and_true, or_false, false_or, or_true, true_or, and_false, false_and, not_true_eq_false, not_false_eq_true, Nat.reduceAdd, Nat.reduceLeDiff, Nat.reduceLT, Option.toList_some, Option.toList_none, List.cons_append, List.nil_append, callK_ret, callR_ret, callK_thr, decide_true, Bool.true_and, xNr, bI0, bIT, bIF, ne_eq, Classical.not_not, not_false_eq_true, false_or, List.length_nil, ic_lt, ic_eq, le_nl, ↓reduceIte, Nat.lt_irrefl, ri_ws, ri_wn, ri_as, ri_an, upd_s, upd_n, rp_wi, rp_wa, rl_wi, rl_wa, rl_wp, rl_wpa, rp_wl, ri_wl, rp_wd, ri_wd, in_rng, Int32.lt_irrefl, Nat.not_lt_zero, pk_nc, Nat.reduceEqDiff, Nat.succ_ne_self, Nat.one_ne_zero, Nat.add_left_cancel_iff, ri_wpa, ri_wp, QState_close_0, QState_close_1, hn, h1, hk, e1, e2, e4, e5, ic_add]
    · have e1 : (if i ≤ at_ then i else i - 1) = i - 1 := if_neg (by omega)
      have e2 : (if i + 1 ≤ at_ then i + 1 else i + 1 - 1) = i - 1 + 1 := (if_neg (by omega)).trans (by omega)
      have e3 : ¬ rp m (b + 1) i = rp m (b + 1) at_ := fun z => by have := hJ.2 i (by omega) at_ (by omega) z; omega
      have e5 := shA_step (m := m) (b := b) (show at_ + 1 ≤ i by omega)
      have h9 : i - 1 < 12 := by omega
      simp (disch := first | assumption | omega) only [hG0, hG1, hG2, hF0, hF1, hA0, hA1, xL, xC, icL, Option.bind_some, Nat.le_add_right, Nat.le_refl, if_true, if_false, and_self, true_and, and_true, or_false, false_or, or_true, true_or, and_false, false_and, not_true_eq_false, not_false_eq_true, Nat.reduceAdd, Nat.reduceLeDiff, Nat.reduceLT, Option.toList_some, Option.toList_none, List.cons_append, List.nil_append, callK_ret, callR_ret, callK_thr, decide_true, Bool.true_and, xNr, bI0, bIT, bIF, ne_eq, Classical.not_not, not_false_eq_true, false_or, List.length_nil, ic_lt, ic_eq, le_nl, ↓reduceIte, Nat.lt_irrefl, ri_ws, ri_wn, ri_as, ri_an, upd_s, upd_n, rp_wi, rp_wa, rl_wi, rl_wa, rl_wp, rl_wpa, rp_wl, ri_wl, rp_wd, ri_wd, in_rng, Int32.lt_irrefl, Nat.not_lt_zero, pk_nc, Nat.reduceEqDiff, Nat.succ_ne_self, Nat.one_ne_zero, Nat.add_left_cancel_iff, ri_wpa, ri_wp, QState_close_0, QState_close_1, hn', h1, hk, hr, e1, e2, e3, ic_add, e5]
  refine ((congrArg (fun q => Rx (n0, S0) d 47 4 [some (.ref (n0 + b)), some (.ref (n0 + rp m (b + 1) at_)), some (.int (ic 0)), some (.int (ic 0))] [] (hp n0 G q, N, z)) (shA_le (m := m) (b := b) (at_ := at_) (i := 0) (by omega)).symm).trans ?_)
  refine (iter (fun i => Rx (n0, S0) d 47 4 [some (.ref (n0 + b)), some (.ref (n0 + rp m (b + 1) at_)), some (.int (ic (if i ≤ at_ then i else i - 1))), some (.int (ic i))] [] (hp n0 G (shA m b at_ i), N, z)) n step).trans ?_
  have e1 : (if n ≤ at_ then n else n - 1) = n - 1 := if_neg (by omega)
  have hn' : ri (shA m b at_ n) b 1 = ic n := hn
  have h2 : n - 1 < n := by omega
  have hk := hJ.kd hb (show at_ < 12 by omega)
  have h9 : n - 1 < 12 := by omega
  show Rx (n0, S0) d 47 4 [some (.ref (n0 + b)), some (.ref (n0 + rp m (b + 1) at_)), some (.int (ic (if n ≤ at_ then n else n - 1))), some (.int (ic n))] [] (hp n0 G (shA m b at_ n), N, z) = _
  rw [HState_close_4]
  simp (disch := first | assumption | omega) only [hG0, hG1, hG2, hF0, hF1, hA0, hA1, xL, xC, icL, Option.bind_some, Nat.le_add_right, Nat.le_refl, if_true, if_false, and_self, true_and, and_true, or_false, false_or, or_true, true_or, and_false, false_and, not_true_eq_false, not_false_eq_true, Nat.reduceAdd, Nat.reduceLeDiff, Nat.reduceLT, Option.toList_some, Option.toList_none, List.cons_append, List.nil_append, callK_ret, callR_ret, callK_thr, decide_true, Bool.true_and, xNr, bI0, bIT, bIF, ne_eq, Classical.not_not, not_false_eq_true, false_or, List.length_nil, ic_lt, ic_eq, le_nl, ↓reduceIte, Nat.lt_irrefl, ri_ws, ri_wn, ri_as, ri_an, upd_s, upd_n, rp_wi, rp_wa, rl_wi, rl_wa, rl_wp, rl_wpa, rp_wl, ri_wl, rp_wd, ri_wd, in_rng, Int32.lt_irrefl, Nat.not_lt_zero, pk_nc, Nat.reduceEqDiff, Nat.succ_ne_self, Nat.one_ne_zero, Nat.add_left_cancel_iff, ri_wpa, ri_wp, QState_close_0, QState_close_1, hn', e1, h2, hk, clA_of ha]
end C3
