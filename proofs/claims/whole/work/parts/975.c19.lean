/-! the class's Planner: the two ways to the least lateness; expanded by wip/whole/px.py out of wip/whole/c19.src -/
section C19
variable {n0 N z d : Nat} {S0 : Nat → Value} {G : sH} {m : mm}
/-- the jobs of barrow w collected -/
abbrev cM (m : mm) (w n : Nat) : mm := (coM m (ic w) n).1
abbrev cN (m : mm) (w n : Nat) : Nat := (coM m (ic w) n).2
/-- the planner behind the recursion -/
def lrS (m : mm) (w n : Nat) : pS := chF (pJ (cM m w n)) (cN m w n) (cN m w n) 0 (ri m (3 + (15 + 2 * w)) 0) (ri m (3 + (15 + 2 * w)) 1) (ri m (3 + (15 + 2 * w)) 2) (ic 0) (upd (upd (ri (cM m w n) 256) 4 (ic 0)) 5 (ic 0), ri (cM m w n) 258, ri (cM m w n) 259, ri (cM m w n) 260, ri (cM m w n) 261, ri (cM m w n) 262)
def lrM (m : mm) (w n : Nat) : mm := pM (cM m w n) (lrS m w n)
theorem JP_co (hP : JP m) {w n : Nat} : JP (cM m w n) := by
  unfold JP
  rw [(coM_rp n).1]
  exact hP
theorem c_leastByRecursion (hJ : JV m 1) (hP : JP m) {n : Nat} (hn : ri m 1 1 = ic n) (h12 : n ≤ 12) {w : Nat} (hw : w < 3) : Mt (n0, S0) (d + 16) 20 [.ref (n0 + 256), .ref (n0 + 1), .int (ic w)] (hp n0 G m, N, z) = oI n0 G (lrM m w n) N z ((lrS m w n).1 5) := by
  have k1 : kd 1 = 1 := rfl
  have k3 : kd 3 = 3 := rfl
  have k256 : kd 256 = 10 := rfl
  obtain ⟨s5, s6⟩ := kd_W hw
  have e8 := coM_c hP (w := ic w) n
  have h6 : cN m w n ≤ 6 := (coM_6 (m := m) (w := ic w) n).1
  have b1 : ri (cM m w n) (3 + (15 + 2 * w)) = ri m (3 + (15 + 2 * w)) := coM_o hP n (by omega) (by omega)
  have hs : ∀ v1 v2, wi (wi (cM m w n) 256 4 v1) 256 5 v2 = pM (cM m w n) (upd (upd (ri (cM m w n) 256) 4 v1) 5 v2, ri (cM m w n) 258, ri (cM m w n) 259, ri (cM m w n) 260, ri (cM m w n) 261, ri (cM m w n) 262) := fun v1 v2 => by
    unfold pM
    dsimp only
    conv => lhs; rw [← ps_self (m := cM m w n)]
    rw [ps_i256, ps_i256]
  have hc := fun x y c (N z : Nat) => c_choose (n0 := n0) (S0 := S0) (G := G) (JP_co hP (w := w) (n := n)) h6 (cN m w n) 0 x y c (ic 0) (upd (upd (ri (cM m w n) 256) 4 (ic 0)) 5 (ic 0), ri (cM m w n) 258, ri (cM m w n) 259, ri (cM m w n) 260, ri (cM m w n) 261, ri (cM m w n) 262) (by omega) (by dsimp only; rw [upd_n _ _ (by decide), upd_n _ _ (by decide)]; exact e8) (d + 2 * (6 - cN m w n)) N z
  have hd : d + 2 * (6 - cN m w n) + 2 * cN m w n + 3 = d + 15 := by omega
  rw [hd] at hc
  have hcol := fun (d N z : Nat) => c_collect (n0 := n0) (S0 := S0) (G := G) (d := d) (N := N) (z := z) hJ hP hn h12 (w := ic w)
  have hr5 : ri (lrM m w n) 256 5 = (lrS m w n).1 5 := by unfold lrM pM; rw [ps_256]
  have hrM : pM (cM m w n) (lrS m w n) = lrM m w n := rfl
  have hrS : chF (pJ (cM m w n)) (cN m w n) (cN m w n) 0 (ri m (3 + (15 + 2 * w)) 0) (ri m (3 + (15 + 2 * w)) 1) (ri m (3 + (15 + 2 * w)) 2) (ic 0) (upd (upd (ri (cM m w n) 256) 4 (ic 0)) 5 (ic 0), ri (cM m w n) 258, ri (cM m w n) 259, ri (cM m w n) 260, ri (cM m w n) 261, ri (cM m w n) 262) = lrS m w n := rfl
  have hc2 := hc (ri m (3 + (15 + 2 * w)) 0) (ri m (3 + (15 + 2 * w)) 1) (ri m (3 + (15 + 2 * w)) 2)
  rw [hrS, hrM] at hc2
  clear hc hrM hrS hd
  have hs0 := hs (ic 0) (ic 0)
  clear hs
  have b2 : ri (pM (cM m w n) (upd (upd (ri (cM m w n) 256) 4 (ic 0)) 5 (ic 0), ri (cM m w n) 258, ri (cM m w n) 259, ri (cM m w n) 260, ri (cM m w n) 261, ri (cM m w n) 262)) (3 + (15 + 2 * w)) = ri m (3 + (15 + 2 * w)) := by
    rw [← hs0, ri_wn _ _ _ (by omega), ri_wn _ _ _ (by omega)]
    exact b1
  generalize (upd (upd (ri (cM m w n) 256) 4 (ic 0)) 5 (ic 0), ri (cM m w n) 258, ri (cM m w n) 259, ri (cM m w n) 260, ri (cM m w n) 261, ri (cM m w n) 262) = t at hs0 hc2 b2
  rw [NPlanner_leastByRecursion]
  simp (disch := first | assumption | (show (_ : Nat) < _; omega) | (show (_ : Nat) ≠ _; omega) | (show (_ : Nat) ≤ _; omega) | exact Or.inl rfl | exact Or.inr rfl) only [hG0, hG1, hG2, hF0, hF1, hA0, hA1, xL, xC, icL, Option.bind_some, Nat.le_add_right, Nat.le_refl, if_true, if_false, and_self, true_and, and_true, or_false, false_or, or_true, true_or, and_false, false_and, not_true_eq_false, not_false_eq_true, Nat.reduceAdd, Nat.reduceLeDiff, Nat.reduceLT, Option.toList_some, Option.toList_none, List.cons_append, List.nil_append, callK_ret, callR_ret, callK_thr, decide_true, Bool.true_and, xNr, bI0, bIT, bIF, ne_eq, Classical.not_not, not_false_eq_true, false_or, List.length_nil, icM, ic_lt, ic_eq, le_nl, ↓reduceIte, Nat.lt_irrefl, ri_ws, ri_wn, ri_as, ri_an, upd_s, upd_n, rp_wi, rp_wa, rl_wi, rl_wa, rl_wp, rl_wpa, rl_wl, rp_wl, ri_wl, rp_wd, ri_wd, in_rng, Int32.lt_irrefl, Nat.not_lt_zero, pk_nc, Nat.reduceEqDiff, Nat.succ_ne_self, Nat.one_ne_zero, Nat.add_left_cancel_iff, ri_wpa, ri_wp, QPlanner_leastByRecursion_0, QPlanner_leastByRecursion_1, hcol]
  rw [show (coM m (ic w) n).1 = cM m w n from rfl]
  simp (disch := first | assumption | (show (_ : Nat) < _; omega) | (show (_ : Nat) ≠ _; omega) | (show (_ : Nat) ≤ _; omega) | exact Or.inl rfl | exact Or.inr rfl) only [hG0, hG1, hG2, hF0, hF1, hA0, hA1, xL, xC, icL, Option.bind_some, Nat.le_add_right, Nat.le_refl, if_true, if_false, and_self, true_and, and_true, or_false, false_or, or_true, true_or, and_false, false_and, not_true_eq_false, not_false_eq_true, Nat.reduceAdd, Nat.reduceLeDiff, Nat.reduceLT, Option.toList_some, Option.toList_none, List.cons_append, List.nil_append, callK_ret, callR_ret, callK_thr, decide_true, Bool.true_and, xNr, bI0, bIT, bIF, ne_eq, Classical.not_not, not_false_eq_true, false_or, List.length_nil, icM, ic_lt, ic_eq, le_nl, ↓reduceIte, Nat.lt_irrefl, ri_ws, ri_wn, ri_as, ri_an, upd_s, upd_n, rp_wi, rp_wa, rl_wi, rl_wa, rl_wp, rl_wpa, rl_wl, rp_wl, ri_wl, rp_wd, ri_wd, in_rng, Int32.lt_irrefl, Nat.not_lt_zero, pk_nc, Nat.reduceEqDiff, Nat.succ_ne_self, Nat.one_ne_zero, Nat.add_left_cancel_iff, ri_wpa, ri_wp, QPlanner_leastByRecursion_0, QPlanner_leastByRecursion_1, hs0, c_isBarrow, hw, b2, hc2, hr5]
/-- a walk over the jobs in order: x, y, clock, lateness -/
def loF (J : Nat → Nat → Int32) (x y c : Int32) : Nat → Int32 × Int32 × Int32 × Int32
  | 0 => (x, y, c, ic 0)
  | i + 1 => (J i 1, J i 2, fnJ (J i) (loF J x y c i).1 (loF J x y c i).2.1 (loF J x y c i).2.2.1, (loF J x y c i).2.2.2 + ltJ (J i) (fnJ (J i) (loF J x y c i).1 (loF J x y c i).2.1 (loF J x y c i).2.2.1))
theorem c_latenessInOrder (hP : ∀ i, i < 6 → kd (rp m 257 i) = 6) {cnt k : Nat} (h8 : ri m 256 8 = ic cnt) (h6 : cnt ≤ 6) (hk : kd k = 7) : Mt (n0, S0) (d + 3) 26 [.ref (n0 + 256), .ref (n0 + k)] (hp n0 G m, N, z) = oI n0 G m N z ((loF (pJ m) (ri m k 0) (ri m k 1) (ri m k 2) cnt).2.2.2) := by
  have k256 : kd 256 = 10 := rfl
  have k257 : kd 257 = 11 := rfl
  rw [NPlanner_latenessInOrder]
  simp (disch := first | assumption | (show (_ : Nat) < _; omega) | (show (_ : Nat) ≠ _; omega) | (show (_ : Nat) ≤ _; omega) | exact Or.inl rfl | exact Or.inr rfl) only [hG0, hG1, hG2, hF0, hF1, hA0, hA1, xL, xC, icL, Option.bind_some, Nat.le_add_right, Nat.le_refl, if_true, if_false, and_self, true_and, and_true, or_false, false_or, or_true, true_or, and_false, false_and, not_true_eq_false, not_false_eq_true, Nat.reduceAdd, Nat.reduceLeDiff, Nat.reduceLT, Option.toList_some, Option.toList_none, List.cons_append, List.nil_append, callK_ret, callR_ret, callK_thr, decide_true, Bool.true_and, xNr, bI0, bIT, bIF, ne_eq, Classical.not_not, not_false_eq_true, false_or, List.length_nil, icM, ic_lt, ic_eq, le_nl, ↓reduceIte, Nat.lt_irrefl, ri_ws, ri_wn, ri_as, ri_an, upd_s, upd_n, rp_wi, rp_wa, rl_wi, rl_wa, rl_wp, rl_wpa, rl_wl, rp_wl, ri_wl, rp_wd, ri_wd, in_rng, Int32.lt_irrefl, Nat.not_lt_zero, pk_nc, Nat.reduceEqDiff, Nat.succ_ne_self, Nat.one_ne_zero, Nat.add_left_cancel_iff, ri_wpa, ri_wp, QPlanner_latenessInOrder_0, QPlanner_latenessInOrder_1]
  have step : ∀ i, i < cnt → ∀ l : Option Value, ∃ l' : Option Value, Rx (n0, S0) (d + 2) 26 22 [some (.ref (n0 + 256)), some (.ref (n0 + k)), some (.int ((loF (pJ m) (ri m k 0) (ri m k 1) (ri m k 2) i).1)), some (.int ((loF (pJ m) (ri m k 0) (ri m k 1) (ri m k 2) i).2.1)), some (.int ((loF (pJ m) (ri m k 0) (ri m k 1) (ri m k 2) i).2.2.1)), some (.int ((loF (pJ m) (ri m k 0) (ri m k 1) (ri m k 2) i).2.2.2)), some (.int (ic i)), l] [] (hp n0 G m, N, z) = Rx (n0, S0) (d + 2) 26 22 [some (.ref (n0 + 256)), some (.ref (n0 + k)), some (.int ((loF (pJ m) (ri m k 0) (ri m k 1) (ri m k 2) (i + 1)).1)), some (.int ((loF (pJ m) (ri m k 0) (ri m k 1) (ri m k 2) (i + 1)).2.1)), some (.int ((loF (pJ m) (ri m k 0) (ri m k 1) (ri m k 2) (i + 1)).2.2.1)), some (.int ((loF (pJ m) (ri m k 0) (ri m k 1) (ri m k 2) (i + 1)).2.2.2)), some (.int (ic (i + 1))), l'] [] (hp n0 G m, N, z) := by
    intro i hi l
    have hko := hP i (by omega)
    refine ⟨some (.ref (n0 + rp m 257 i)), ?_⟩
    rw [loF]
    generalize loF (pJ m) (ri m k 0) (ri m k 1) (ri m k 2) i = t
    obtain ⟨x, y, c, l0⟩ := t
    dsimp only
    unfold ltJ fnJ pJ
    rw [HPlanner_latenessInOrder_22]
    simp (disch := first | assumption | (show (_ : Nat) < _; omega) | (show (_ : Nat) ≠ _; omega) | (show (_ : Nat) ≤ _; omega) | exact Or.inl rfl | exact Or.inr rfl) only [hG0, hG1, hG2, hF0, hF1, hA0, hA1, xL, xC, icL, Option.bind_some, Nat.le_add_right, Nat.le_refl, if_true, if_false, and_self, true_and, and_true, or_false, false_or, or_true, true_or, and_false, false_and, not_true_eq_false, not_false_eq_true, Nat.reduceAdd, Nat.reduceLeDiff, Nat.reduceLT, Option.toList_some, Option.toList_none, List.cons_append, List.nil_append, callK_ret, callR_ret, callK_thr, decide_true, Bool.true_and, xNr, bI0, bIT, bIF, ne_eq, Classical.not_not, not_false_eq_true, false_or, List.length_nil, icM, ic_lt, ic_eq, le_nl, ↓reduceIte, Nat.lt_irrefl, ri_ws, ri_wn, ri_as, ri_an, upd_s, upd_n, rp_wi, rp_wa, rl_wi, rl_wa, rl_wp, rl_wpa, rl_wl, rp_wl, ri_wl, rp_wd, ri_wd, in_rng, Int32.lt_irrefl, Nat.not_lt_zero, pk_nc, Nat.reduceEqDiff, Nat.succ_ne_self, Nat.one_ne_zero, Nat.add_left_cancel_iff, ri_wpa, ri_wp, QPlanner_latenessInOrder_0, QPlanner_latenessInOrder_1, h8, hi, hko, c_finishFrom, c_latenessAt, ic_add]
  obtain ⟨l, hl⟩ := iterE (fun i (l : Option Value) => Rx (n0, S0) (d + 2) 26 22 [some (.ref (n0 + 256)), some (.ref (n0 + k)), some (.int ((loF (pJ m) (ri m k 0) (ri m k 1) (ri m k 2) i).1)), some (.int ((loF (pJ m) (ri m k 0) (ri m k 1) (ri m k 2) i).2.1)), some (.int ((loF (pJ m) (ri m k 0) (ri m k 1) (ri m k 2) i).2.2.1)), some (.int ((loF (pJ m) (ri m k 0) (ri m k 1) (ri m k 2) i).2.2.2)), some (.int (ic i)), l] [] (hp n0 G m, N, z)) cnt step none
  refine hl.trans ?_
  show Rx _ _ _ _ _ _ _ = _
  rw [HPlanner_latenessInOrder_22]
  simp (disch := first | assumption | (show (_ : Nat) < _; omega) | (show (_ : Nat) ≠ _; omega) | (show (_ : Nat) ≤ _; omega) | exact Or.inl rfl | exact Or.inr rfl) only [hG0, hG1, hG2, hF0, hF1, hA0, hA1, xL, xC, icL, Option.bind_some, Nat.le_add_right, Nat.le_refl, if_true, if_false, and_self, true_and, and_true, or_false, false_or, or_true, true_or, and_false, false_and, not_true_eq_false, not_false_eq_true, Nat.reduceAdd, Nat.reduceLeDiff, Nat.reduceLT, Option.toList_some, Option.toList_none, List.cons_append, List.nil_append, callK_ret, callR_ret, callK_thr, decide_true, Bool.true_and, xNr, bI0, bIT, bIF, ne_eq, Classical.not_not, not_false_eq_true, false_or, List.length_nil, icM, ic_lt, ic_eq, le_nl, ↓reduceIte, Nat.lt_irrefl, ri_ws, ri_wn, ri_as, ri_an, upd_s, upd_n, rp_wi, rp_wa, rl_wi, rl_wa, rl_wp, rl_wpa, rl_wl, rp_wl, ri_wl, rp_wd, ri_wd, in_rng, Int32.lt_irrefl, Nat.not_lt_zero, pk_nc, Nat.reduceEqDiff, Nat.succ_ne_self, Nat.one_ne_zero, Nat.add_left_cancel_iff, ri_wpa, ri_wp, QPlanner_latenessInOrder_0, QPlanner_latenessInOrder_1, h8]
def swF (u : Nat → Nat) (a b : Nat) : Nat → Nat := fun j => if j = b then u a else if j = a then u b else u j
theorem c_swap (hP : JP m) {a b : Nat} (ha : a < 6) (hb : b < 6) : Mt (n0, S0) (d + 1) 28 [.ref (n0 + 256), .int (ic a), .int (ic b)] (hp n0 G m, N, z) = some (.inl none, (hp n0 G (wpa m 257 (swF (rp m 257) a b)), N, z)) := by
  have k256 : kd 256 = 10 := rfl
  have k257 : kd 257 = 11 := rfl
  have k1 := hP.kd ha
  have k2 := hP.kd hb
  have e : wp (wp m 257 a (rp m 257 b)) 257 b (rp m 257 a) = wpa m 257 (swF (rp m 257) a b) := by
    have h0 : wp (wp m 257 a (rp m 257 b)) 257 b (rp m 257 a) = wp (wp (wpa m 257 (rp m 257)) 257 a (rp m 257 b)) 257 b (rp m 257 a) := by rw [wpa_id]
    rw [h0, wp_wpa, wp_wpa]
    rfl
  rw [NPlanner_swap]
  simp (disch := first | assumption | (show (_ : Nat) < _; omega) | (show (_ : Nat) ≠ _; omega) | (show (_ : Nat) ≤ _; omega) | exact Or.inl rfl | exact Or.inr rfl) only [hG0, hG1, hG2, hF0, hF1, hA0, hA1, xL, xC, icL, Option.bind_some, Nat.le_add_right, Nat.le_refl, if_true, if_false, and_self, true_and, and_true, or_false, false_or, or_true, true_or, and_false, false_and, not_true_eq_false, not_false_eq_true, Nat.reduceAdd, Nat.reduceLeDiff, Nat.reduceLT, Option.toList_some, Option.toList_none, List.cons_append, List.nil_append, callK_ret, callR_ret, callK_thr, decide_true, Bool.true_and, xNr, bI0, bIT, bIF, ne_eq, Classical.not_not, not_false_eq_true, false_or, List.length_nil, icM, ic_lt, ic_eq, le_nl, ↓reduceIte, Nat.lt_irrefl, ri_ws, ri_wn, ri_as, ri_an, upd_s, upd_n, rp_wi, rp_wa, rl_wi, rl_wa, rl_wp, rl_wpa, rl_wl, rp_wl, ri_wl, rp_wd, ri_wd, in_rng, Int32.lt_irrefl, Nat.not_lt_zero, pk_nc, Nat.reduceEqDiff, Nat.succ_ne_self, Nat.one_ne_zero, Nat.add_left_cancel_iff, ri_wpa, ri_wp, QPlanner_swap_0, e]
end C19
