/-! what the class's State answers; expanded by wip/whole/px.py out of wip/whole/c2.src -/
/-- the first i from i0 on, in k places, with P -/
def fndA (P : Nat → Prop) [DecidablePred P] : Nat → Nat → Option Nat
  | _, 0 => none
  | i, k + 1 => if P i then some i else fndA P (i + 1) k
def cntF (P : Nat → Prop) [DecidablePred P] : Nat → Nat
  | 0 => 0
  | n + 1 => cntF P n + (if P n then 1 else 0)
theorem cntF_le (P : Nat → Prop) [DecidablePred P] (n : Nat) : cntF P n ≤ n := by
  induction n with
  | zero => exact Nat.le_refl _
  | succ n ih =>
    unfold cntF
    split <;> omega
section C2
variable {n0 N z d b : Nat} {S0 : Nat → Value} {G : sH} {m : mm}
/-- the places of the jobs of a state -/
def JV (m : mm) (b : Nat) : Prop := (∀ i, i < 12 → b + 5 ≤ rp m (b + 1) i ∧ rp m (b + 1) i < b + 17) ∧ ∀ i, i < 12 → ∀ j, j < 12 → rp m (b + 1) i = rp m (b + 1) j → i = j
theorem JV.kd (hb : isS b) (hJ : JV m b) {i : Nat} (hi : i < 12) : kd (rp m (b + 1) i) = 6 := kd_SJ hb (hJ.1 i hi).1 (hJ.1 i hi).2
def rJ (n0 : Nat) (m : mm) (b : Nat) (o : Option Nat) : Value := match o with
  | some i => .ref (n0 + rp m (b + 1) i)
  | none => .null
theorem c_findLoop (hb : isS b) (hJ : JV m b) {n : Nat} (hn : ri m b 1 = ic n) (h12 : n ≤ 12) {job : Int32} : ∀ k i, i + k = n → Rx (n0, S0) d 41 2 [some (.ref (n0 + b)), some (.int job), some (.int (ic i))] [] (hp n0 G m, N, z) = some (.inl (some (rJ n0 m b (fndA (fun i => ri m (rp m (b + 1) i) 0 = job) i k))), (hp n0 G m, N, z)) := by
  obtain ⟨s0, s1, s2, s3, s4⟩ := kd_S0 hb
  intro k
  induction k with
  | zero =>
    intro i hi
    rw [HState_findJob_2]
    obtain rfl : i = n := by omega
    simp (disch := first | assumption | omega) only [hG0, hG1, hG2, hF0, hF1, hA0, hA1, xL, xC, icL, Option.bind_some, Nat.le_add_right, Nat.le_refl, if_true, if_false, and_self, true_and, and_true, or_false, false_or, or_true, true_or, and_false, false_and, not_true_eq_false, not_false_eq_true, Nat.reduceAdd, Nat.reduceLeDiff, Nat.reduceLT, Option.toList_some, Option.toList_none, List.cons_append, List.nil_append, callK_ret, callR_ret, callK_thr, decide_true, Bool.true_and, xNr, bI0, bIT, bIF, ne_eq, Classical.not_not, not_false_eq_true, false_or, List.length_nil, ic_lt, ic_le, ic_eq, in_rng, Int32.lt_irrefl, Nat.not_lt_zero, pk_nc, Nat.reduceEqDiff, Nat.succ_ne_self, Nat.one_ne_zero, Nat.add_left_cancel_iff, ri_wpa, ri_wp, QState_findJob_0, hn, fndA, rJ]
  | succ k ih =>
    intro i hi
    rw [HState_findJob_2]
    have h1 : ¬ n ≤ i := by omega
    have hk := hJ.kd hb (show i < 12 by omega)
    by_cases hP : ri m (rp m (b + 1) i) 0 = job
    · simp (disch := first | assumption | omega) only [hG0, hG1, hG2, hF0, hF1, hA0, hA1, xL, xC, icL, Option.bind_some, Nat.le_add_right, Nat.le_refl, if_true, if_false, and_self, true_and, and_true, or_false, false_or, or_true, true_or, and_false, false_and, not_true_eq_false, not_false_eq_true, Nat.reduceAdd, Nat.reduceLeDiff, Nat.reduceLT, Option.toList_some, Option.toList_none, List.cons_append, List.nil_append, callK_ret, callR_ret, callK_thr, decide_true, Bool.true_and, xNr, bI0, bIT, bIF, ne_eq, Classical.not_not, not_false_eq_true, false_or, List.length_nil, ic_lt, ic_le, ic_eq, in_rng, Int32.lt_irrefl, Nat.not_lt_zero, pk_nc, Nat.reduceEqDiff, Nat.succ_ne_self, Nat.one_ne_zero, Nat.add_left_cancel_iff, ri_wpa, ri_wp, QState_findJob_0, hn, h1, hk, hP, fndA, rJ]
    · simp (disch := first | assumption | omega) only [hG0, hG1, hG2, hF0, hF1, hA0, hA1, xL, xC, icL, Option.bind_some, Nat.le_add_right, Nat.le_refl, if_true, if_false, and_self, true_and, and_true, or_false, false_or, or_true, true_or, and_false, false_and, not_true_eq_false, not_false_eq_true, Nat.reduceAdd, Nat.reduceLeDiff, Nat.reduceLT, Option.toList_some, Option.toList_none, List.cons_append, List.nil_append, callK_ret, callR_ret, callK_thr, decide_true, Bool.true_and, xNr, bI0, bIT, bIF, ne_eq, Classical.not_not, not_false_eq_true, false_or, List.length_nil, ic_lt, ic_le, ic_eq, in_rng, Int32.lt_irrefl, Nat.not_lt_zero, pk_nc, Nat.reduceEqDiff, Nat.succ_ne_self, Nat.one_ne_zero, Nat.add_left_cancel_iff, ri_wpa, ri_wp, QState_findJob_0, hn, h1, hk, hP, fndA, ic_add]
      exact ih (i + 1) (by omega)
theorem c_findJob (hb : isS b) (hJ : JV m b) {n : Nat} (hn : ri m b 1 = ic n) (h12 : n ≤ 12) {job : Int32} : Mt (n0, S0) (d + 1) 41 [.ref (n0 + b), .int job] (hp n0 G m, N, z) = some (.inl (some (rJ n0 m b (fndA (fun i => ri m (rp m (b + 1) i) 0 = job) 0 n))), (hp n0 G m, N, z)) := by
  obtain ⟨s0, s1, s2, s3, s4⟩ := kd_S0 hb
  rw [NState_findJob]
  simp (disch := first | assumption | omega) only [hG0, hG1, hG2, hF0, hF1, hA0, hA1, xL, xC, icL, Option.bind_some, Nat.le_add_right, Nat.le_refl, if_true, if_false, and_self, true_and, and_true, or_false, false_or, or_true, true_or, and_false, false_and, not_true_eq_false, not_false_eq_true, Nat.reduceAdd, Nat.reduceLeDiff, Nat.reduceLT, Option.toList_some, Option.toList_none, List.cons_append, List.nil_append, callK_ret, callR_ret, callK_thr, decide_true, Bool.true_and, xNr, bI0, bIT, bIF, ne_eq, Classical.not_not, not_false_eq_true, false_or, List.length_nil, ic_lt, ic_le, ic_eq, in_rng, Int32.lt_irrefl, Nat.not_lt_zero, pk_nc, Nat.reduceEqDiff, Nat.succ_ne_self, Nat.one_ne_zero, Nat.add_left_cancel_iff, ri_wpa, ri_wp, QState_findJob_0]
  exact c_findLoop hb hJ hn h12 n 0 (by omega)
theorem c_countAssigned (hb : isS b) (hJ : JV m b) {n : Nat} (hn : ri m b 1 = ic n) (h12 : n ≤ 12) {w : Int32} : Mt (n0, S0) (d + 1) 42 [.ref (n0 + b), .int w] (hp n0 G m, N, z) = some (.inl (some (.int (ic (cntF (fun i => ri m (rp m (b + 1) i) 7 = w) n)))), (hp n0 G m, N, z)) := by
  obtain ⟨s0, s1, s2, s3, s4⟩ := kd_S0 hb
  rw [NState_countAssigned]
  simp (disch := first | assumption | omega) only [hG0, hG1, hG2, hF0, hF1, hA0, hA1, xL, xC, icL, Option.bind_some, Nat.le_add_right, Nat.le_refl, if_true, if_false, and_self, true_and, and_true, or_false, false_or, or_true, true_or, and_false, false_and, not_true_eq_false, not_false_eq_true, Nat.reduceAdd, Nat.reduceLeDiff, Nat.reduceLT, Option.toList_some, Option.toList_none, List.cons_append, List.nil_append, callK_ret, callR_ret, callK_thr, decide_true, Bool.true_and, xNr, bI0, bIT, bIF, ne_eq, Classical.not_not, not_false_eq_true, false_or, List.length_nil, ic_lt, ic_le, ic_eq, in_rng, Int32.lt_irrefl, Nat.not_lt_zero, pk_nc, Nat.reduceEqDiff, Nat.succ_ne_self, Nat.one_ne_zero, Nat.add_left_cancel_iff, ri_wpa, ri_wp, QState_countAssigned_0]
  have step : ∀ i, i < n → Rx (n0, S0) d 42 4 [some (.ref (n0 + b)), some (.int w), some (.int (ic (cntF (fun i => ri m (rp m (b + 1) i) 7 = w) i))), some (.int (ic i))] [] (hp n0 G m, N, z) = Rx (n0, S0) d 42 4 [some (.ref (n0 + b)), some (.int w), some (.int (ic (cntF (fun i => ri m (rp m (b + 1) i) 7 = w) (i + 1)))), some (.int (ic (i + 1)))] [] (hp n0 G m, N, z) := by
    intro i hi
    rw [HState_countAssigned_4]
    have h1 : ¬ n ≤ i := by omega
    have hk := hJ.kd hb (show i < 12 by omega)
    by_cases hP : ri m (rp m (b + 1) i) 7 = w <;> simp (disch := first | assumption | omega) only [hG0, hG1, hG2, hF0, hF1, hA0, hA1, xL, xC, icL, Option.bind_some, Nat.le_add_right, Nat.le_refl, if_true, if_false, and_self, true_and, and_true, or_false, false_or, or_true, true_or, and_false, false_and, not_true_eq_false, not_false_eq_true, Nat.reduceAdd, Nat.reduceLeDiff, Nat.reduceLT, Option.toList_some, Option.toList_none, List.cons_append, List.nil_append, callK_ret, callR_ret, callK_thr, decide_true, Bool.true_and, xNr, bI0, bIT, bIF, ne_eq, Classical.not_not, not_false_eq_true, false_or, List.length_nil, ic_lt, ic_le, ic_eq, in_rng, Int32.lt_irrefl, Nat.not_lt_zero, pk_nc, Nat.reduceEqDiff, Nat.succ_ne_self, Nat.one_ne_zero, Nat.add_left_cancel_iff, ri_wpa, ri_wp, QState_countAssigned_0, hn, h1, hk, hP, cntF, ic_add, Nat.add_zero]
  refine (iter (fun i => Rx (n0, S0) d 42 4 [some (.ref (n0 + b)), some (.int w), some (.int (ic (cntF (fun i => ri m (rp m (b + 1) i) 7 = w) i))), some (.int (ic i))] [] (hp n0 G m, N, z)) n step).trans ?_
  rw [HState_countAssigned_4]
  simp (disch := first | assumption | omega) only [hG0, hG1, hG2, hF0, hF1, hA0, hA1, xL, xC, icL, Option.bind_some, Nat.le_add_right, Nat.le_refl, if_true, if_false, and_self, true_and, and_true, or_false, false_or, or_true, true_or, and_false, false_and, not_true_eq_false, not_false_eq_true, Nat.reduceAdd, Nat.reduceLeDiff, Nat.reduceLT, Option.toList_some, Option.toList_none, List.cons_append, List.nil_append, callK_ret, callR_ret, callK_thr, decide_true, Bool.true_and, xNr, bI0, bIT, bIF, ne_eq, Classical.not_not, not_false_eq_true, false_or, List.length_nil, ic_lt, ic_le, ic_eq, in_rng, Int32.lt_irrefl, Nat.not_lt_zero, pk_nc, Nat.reduceEqDiff, Nat.succ_ne_self, Nat.one_ne_zero, Nat.add_left_cancel_iff, ri_wpa, ri_wp, QState_countAssigned_0, hn]
theorem c_countTools (hb : isS b) {w : Int32} : Mt (n0, S0) (d + 1) 52 [.ref (n0 + b), .int w] (hp n0 G m, N, z) = some (.inl (some (.int (ic (cntF (fun i => ri m (b + 4) i = w) 6)))), (hp n0 G m, N, z)) := by
  obtain ⟨s0, s1, s2, s3, s4⟩ := kd_S0 hb
  rw [NState_countTools]
  simp (disch := first | assumption | omega) only [hG0, hG1, hG2, hF0, hF1, hA0, hA1, xL, xC, icL, Option.bind_some, Nat.le_add_right, Nat.le_refl, if_true, if_false, and_self, true_and, and_true, or_false, false_or, or_true, true_or, and_false, false_and, not_true_eq_false, not_false_eq_true, Nat.reduceAdd, Nat.reduceLeDiff, Nat.reduceLT, Option.toList_some, Option.toList_none, List.cons_append, List.nil_append, callK_ret, callR_ret, callK_thr, decide_true, Bool.true_and, xNr, bI0, bIT, bIF, ne_eq, Classical.not_not, not_false_eq_true, false_or, List.length_nil, ic_lt, ic_le, ic_eq, in_rng, Int32.lt_irrefl, Nat.not_lt_zero, pk_nc, Nat.reduceEqDiff, Nat.succ_ne_self, Nat.one_ne_zero, Nat.add_left_cancel_iff, ri_wpa, ri_wp, QState_countTools_0]
  have step : ∀ i, i < 6 → Rx (n0, S0) d 52 14 [some (.ref (n0 + b)), some (.int w), some (.int (ic (cntF (fun i => ri m (b + 4) i = w) i))), some (.ref (n0 + (b + 4))), some (.int (ic 6)), some (.int (ic i)), if i = 0 then none else some (.int (ri m (b + 4) (i - 1)))] [] (hp n0 G m, N, z) = Rx (n0, S0) d 52 14 [some (.ref (n0 + b)), some (.int w), some (.int (ic (cntF (fun i => ri m (b + 4) i = w) (i + 1)))), some (.ref (n0 + (b + 4))), some (.int (ic 6)), some (.int (ic (i + 1))), if i + 1 = 0 then none else some (.int (ri m (b + 4) (i + 1 - 1)))] [] (hp n0 G m, N, z) := by
    intro i hi
    rw [HState_countTools_14]
    have h1 : ¬ 6 ≤ i := by omega
    have h2 : ¬ i + 1 = 0 := by omega
    by_cases hP : ri m (b + 4) i = w <;> simp (disch := first | assumption | omega) only [hG0, hG1, hG2, hF0, hF1, hA0, hA1, xL, xC, icL, Option.bind_some, Nat.le_add_right, Nat.le_refl, if_true, if_false, and_self, true_and, and_true, or_false, false_or, or_true, true_or, and_false, false_and, not_true_eq_false, not_false_eq_true, Nat.reduceAdd, Nat.reduceLeDiff, Nat.reduceLT, Option.toList_some, Option.toList_none, List.cons_append, List.nil_append, callK_ret, callR_ret, callK_thr, decide_true, Bool.true_and, xNr, bI0, bIT, bIF, ne_eq, Classical.not_not, not_false_eq_true, false_or, List.length_nil, ic_lt, ic_le, ic_eq, in_rng, Int32.lt_irrefl, Nat.not_lt_zero, pk_nc, Nat.reduceEqDiff, Nat.succ_ne_self, Nat.one_ne_zero, Nat.add_left_cancel_iff, ri_wpa, ri_wp, QState_countTools_0, h1, h2, hP, cntF, ic_add, Nat.add_zero, Nat.add_sub_cancel]
  refine (iter (fun i => Rx (n0, S0) d 52 14 [some (.ref (n0 + b)), some (.int w), some (.int (ic (cntF (fun i => ri m (b + 4) i = w) i))), some (.ref (n0 + (b + 4))), some (.int (ic 6)), some (.int (ic i)), if i = 0 then none else some (.int (ri m (b + 4) (i - 1)))] [] (hp n0 G m, N, z)) 6 step).trans ?_
  rw [HState_countTools_14]
  simp (disch := first | assumption | omega) only [hG0, hG1, hG2, hF0, hF1, hA0, hA1, xL, xC, icL, Option.bind_some, Nat.le_add_right, Nat.le_refl, if_true, if_false, and_self, true_and, and_true, or_false, false_or, or_true, true_or, and_false, false_and, not_true_eq_false, not_false_eq_true, Nat.reduceAdd, Nat.reduceLeDiff, Nat.reduceLT, Option.toList_some, Option.toList_none, List.cons_append, List.nil_append, callK_ret, callR_ret, callK_thr, decide_true, Bool.true_and, xNr, bI0, bIT, bIF, ne_eq, Classical.not_not, not_false_eq_true, false_or, List.length_nil, ic_lt, ic_le, ic_eq, in_rng, Int32.lt_irrefl, Nat.not_lt_zero, pk_nc, Nat.reduceEqDiff, Nat.succ_ne_self, Nat.one_ne_zero, Nat.add_left_cancel_iff, ri_wpa, ri_wp, QState_countTools_0]
theorem c_hasTool (hb : isS b) {w : Int32} {o t : Nat} (ho : kd o = 6) (ht : ri m o 4 = ic t) (ht6 : t < 6) : Mt (n0, S0) (d + 2) 55 [.ref (n0 + b), .int w, .ref (n0 + o)] (hp n0 G m, N, z) = some (.inl (some (.int (bI (ri m (b + 4) t = w)))), (hp n0 G m, N, z)) := by
  obtain ⟨s0, s1, s2, s3, s4⟩ := kd_S0 hb
  rw [NState_hasTool]
  by_cases hP : ri m (b + 4) t = w <;> simp (disch := first | assumption | omega) only [hG0, hG1, hG2, hF0, hF1, hA0, hA1, xL, xC, icL, Option.bind_some, Nat.le_add_right, Nat.le_refl, if_true, if_false, and_self, true_and, and_true, or_false, false_or, or_true, true_or, and_false, false_and, not_true_eq_false, not_false_eq_true, Nat.reduceAdd, Nat.reduceLeDiff, Nat.reduceLT, Option.toList_some, Option.toList_none, List.cons_append, List.nil_append, callK_ret, callR_ret, callK_thr, decide_true, Bool.true_and, xNr, bI0, bIT, bIF, ne_eq, Classical.not_not, not_false_eq_true, false_or, List.length_nil, ic_lt, ic_le, ic_eq, in_rng, Int32.lt_irrefl, Nat.not_lt_zero, pk_nc, Nat.reduceEqDiff, Nat.succ_ne_self, Nat.one_ne_zero, Nat.add_left_cancel_iff, ri_wpa, ri_wp, QState_hasTool_0, c_isTool, ho, ht, hP, Nat.not_le.mpr ht6]
theorem c_hasPart (hb : isS b) {w o t : Nat} (hw : w < 3) (ho : kd o = 6) (ht : ri m o 3 = ic t) (ht4 : t < 4) : Mt (n0, S0) (d + 2) 56 [.ref (n0 + b), .int (ic w), .ref (n0 + o)] (hp n0 G m, N, z) = some (.inl (some (.int (bI (¬ ri m (b + 2 + (15 + 2 * w) + 1) t ≤ ic 0)))), (hp n0 G m, N, z)) := by
  obtain ⟨s0, s1, s2, s3, s4⟩ := kd_S0 hb
  obtain ⟨s5, s6⟩ := kd_SW hb hw
  rw [NState_hasPart]
  by_cases hP : ri m (b + 2 + (15 + 2 * w) + 1) t ≤ ic 0 <;> simp (disch := first | assumption | omega) only [hG0, hG1, hG2, hF0, hF1, hA0, hA1, xL, xC, icL, Option.bind_some, Nat.le_add_right, Nat.le_refl, if_true, if_false, and_self, true_and, and_true, or_false, false_or, or_true, true_or, and_false, false_and, not_true_eq_false, not_false_eq_true, Nat.reduceAdd, Nat.reduceLeDiff, Nat.reduceLT, Option.toList_some, Option.toList_none, List.cons_append, List.nil_append, callK_ret, callR_ret, callK_thr, decide_true, Bool.true_and, xNr, bI0, bIT, bIF, ne_eq, Classical.not_not, not_false_eq_true, false_or, List.length_nil, ic_lt, ic_le, ic_eq, in_rng, Int32.lt_irrefl, Nat.not_lt_zero, pk_nc, Nat.reduceEqDiff, Nat.succ_ne_self, Nat.one_ne_zero, Nat.add_left_cancel_iff, ri_wpa, ri_wp, QState_hasPart_0, c_isBarrow, c_isKind, ho, ht, hP, Nat.not_le.mpr ht4, Nat.not_le.mpr hw]
end C2
