/-! the class: borrowedShare, isConsistent; expanded by wip/whole/px.py out of wip/whole/c23.src -/
section C23
variable {n0 N z d : Nat} {S0 : Nat → Value} {G : sH} {m : mm}
theorem share_nn {k : Nat} (h : k ≤ 6) : FP.fdiv (FP.i2f (ic k)) 1086324736 &&& 0x7fffffff ≤ 0x7f800000 := by
  rcases (show k = 0 ∨ k = 1 ∨ k = 2 ∨ k = 3 ∨ k = 4 ∨ k = 5 ∨ k = 6 by omega) with rfl | rfl | rfl | rfl | rfl | rfl | rfl <;> decide
theorem c_borrowedShare : Mt (n0, S0) (d + 1) 68 [.ref n0] (hp n0 G m, N, z) = some (.inl (some (.float (FP.fdiv (FP.i2f (ic (cntF (fun i => ¬ ri m 5 i = -ic 1) 6))) 1086324736))), (hp n0 G m, N, z)) := by
  have k1 : kd 1 = 1 := rfl
  have k5 : kd 5 = 5 := rfl
  rw [NMain_borrowedShare]
  simp (disch := first | assumption | (show (_ : Nat) < _; omega) | (show (_ : Nat) ≠ _; omega) | (show (_ : Nat) ≤ _; omega) | exact Or.inl rfl | exact Or.inr rfl) only [hG0, hG1, hG2, hF0, hF1, hA0, hA1, xL, xC, icL, Option.bind_some, Nat.le_add_right, Nat.le_refl, if_true, if_false, and_self, true_and, and_true, or_false, false_or, or_true, true_or, and_false, false_and, not_true_eq_false, not_false_eq_true, Nat.reduceAdd, Nat.reduceLeDiff, Nat.reduceLT, Option.toList_some, Option.toList_none, List.cons_append, List.nil_append, callK_ret, callR_ret, callK_thr, decide_true, Bool.true_and, xNr, bI0, bIT, bIF, ne_eq, Classical.not_not, not_false_eq_true, false_or, List.length_nil, icM, ic_lt, ic_eq, le_nl, ↓reduceIte, Nat.lt_irrefl, ri_ws, ri_wn, ri_as, ri_an, upd_s, upd_n, rp_wi, rp_wa, rl_wi, rl_wa, rl_wp, rl_wpa, rl_wl, rp_wl, ri_wl, rp_wd, ri_wd, in_rng, Int32.lt_irrefl, Nat.not_lt_zero, pk_nc, Nat.reduceEqDiff, Nat.succ_ne_self, Nat.one_ne_zero, Nat.add_left_cancel_iff, ri_wpa, ri_wp, QMain_borrowedShare_0, QMain_borrowedShare_1]
  have step : ∀ i, i < 6 → ∀ l : Option Value, ∃ l' : Option Value, Rx (n0, S0) d 68 16 [some (.ref n0), some (.int (ic (cntF (fun i => ¬ ri m 5 i = -ic 1) i))), some (.ref (n0 + 5)), some (.int (ic 6)), some (.int (ic i)), l] [] (hp n0 G m, N, z) = Rx (n0, S0) d 68 16 [some (.ref n0), some (.int (ic (cntF (fun i => ¬ ri m 5 i = -ic 1) (i + 1)))), some (.ref (n0 + 5)), some (.int (ic 6)), some (.int (ic (i + 1))), l'] [] (hp n0 G m, N, z) := by
    intro i hi l
    refine ⟨some (.int (ri m 5 i)), ?_⟩
    rw [HMain_borrowedShare_16]
    by_cases h : ri m 5 i = -ic 1 <;> simp (disch := first | assumption | (show (_ : Nat) < _; omega) | (show (_ : Nat) ≠ _; omega) | (show (_ : Nat) ≤ _; omega) | exact Or.inl rfl | exact Or.inr rfl) only [hG0, hG1, hG2, hF0, hF1, hA0, hA1, xL, xC, icL, Option.bind_some, Nat.le_add_right, Nat.le_refl, if_true, if_false, and_self, true_and, and_true, or_false, false_or, or_true, true_or, and_false, false_and, not_true_eq_false, not_false_eq_true, Nat.reduceAdd, Nat.reduceLeDiff, Nat.reduceLT, Option.toList_some, Option.toList_none, List.cons_append, List.nil_append, callK_ret, callR_ret, callK_thr, decide_true, Bool.true_and, xNr, bI0, bIT, bIF, ne_eq, Classical.not_not, not_false_eq_true, false_or, List.length_nil, icM, ic_lt, ic_eq, le_nl, ↓reduceIte, Nat.lt_irrefl, ri_ws, ri_wn, ri_as, ri_an, upd_s, upd_n, rp_wi, rp_wa, rl_wi, rl_wa, rl_wp, rl_wpa, rl_wl, rp_wl, ri_wl, rp_wd, ri_wd, in_rng, Int32.lt_irrefl, Nat.not_lt_zero, pk_nc, Nat.reduceEqDiff, Nat.succ_ne_self, Nat.one_ne_zero, Nat.add_left_cancel_iff, ri_wpa, ri_wp, QMain_borrowedShare_0, QMain_borrowedShare_1, hi, h, cntF, ic_add, Nat.add_zero]
  obtain ⟨l, hl⟩ := iterE (fun i (l : Option Value) => Rx (n0, S0) d 68 16 [some (.ref n0), some (.int (ic (cntF (fun i => ¬ ri m 5 i = -ic 1) i))), some (.ref (n0 + 5)), some (.int (ic 6)), some (.int (ic i)), l] [] (hp n0 G m, N, z)) 6 step none
  refine Eq.trans ?_ (hl.trans ?_)
  · rfl
  · have hn := share_nn (cntF_le (fun i => ¬ ri m 5 i = -ic 1) 6)
    rw [HMain_borrowedShare_16]
    generalize cntF (fun i => ¬ ri m 5 i = -ic 1) 6 = c at hn ⊢
    simp (disch := first | assumption | (show (_ : Nat) < _; omega) | (show (_ : Nat) ≠ _; omega) | (show (_ : Nat) ≤ _; omega) | exact Or.inl rfl | exact Or.inr rfl) only [hG0, hG1, hG2, hF0, hF1, hA0, hA1, xL, xC, icL, Option.bind_some, Nat.le_add_right, Nat.le_refl, if_true, if_false, and_self, true_and, and_true, or_false, false_or, or_true, true_or, and_false, false_and, not_true_eq_false, not_false_eq_true, Nat.reduceAdd, Nat.reduceLeDiff, Nat.reduceLT, Option.toList_some, Option.toList_none, List.cons_append, List.nil_append, callK_ret, callR_ret, callK_thr, decide_true, Bool.true_and, xNr, bI0, bIT, bIF, ne_eq, Classical.not_not, not_false_eq_true, false_or, List.length_nil, icM, ic_lt, ic_eq, le_nl, ↓reduceIte, Nat.lt_irrefl, ri_ws, ri_wn, ri_as, ri_an, upd_s, upd_n, rp_wi, rp_wa, rl_wi, rl_wa, rl_wp, rl_wpa, rl_wl, rp_wl, ri_wl, rp_wd, ri_wd, in_rng, Int32.lt_irrefl, Nat.not_lt_zero, pk_nc, Nat.reduceEqDiff, Nat.succ_ne_self, Nat.one_ne_zero, Nat.add_left_cancel_iff, ri_wpa, ri_wp, QMain_borrowedShare_0, QMain_borrowedShare_1, hn]
/-- the least by orders: the last order and the number -/
abbrev lbR (m : mm) (w n : Nat) : (Nat → Nat) × Int32 := lbF (lateP (cM m w n) (rp m 257) w (cN m w n)) (cN m w n) 719 id (lateP (cM m w n) (rp m 257) w (cN m w n) id)
abbrev lbM (m : mm) (w n : Nat) : mm := wpa (cM m w n) 257 (fun j => rp m 257 ((lbR m w n).1 j))
/-- the jobs collected lie in the order of their numbers -/
def kOK (m : mm) (w n : Nat) : Prop := ∀ i, i < cN m w n → ∀ j, j < cN m w n → (ri (cM m w n) (rp m 257 i) 0 < ri (cM m w n) (rp m 257 j) 0) = (i < j)
theorem lrM_o (hP : JP m) {w n k : Nat} (hk : k < 256 ∨ 269 ≤ k) : ri (lrM m w n) k = ri m k := by
  unfold lrM pM
  rw [ps_o (by omega) (by omega) (by omega) (by omega) (by omega) (by omega)]
  exact coM_o hP n (by omega) (by omega)
theorem lrM_p {w n : Nat} : rp (lrM m w n) = rp m ∧ rl (lrM m w n) = rl m ∧ rd (lrM m w n) = rd m := coM_rp n
theorem lbM_o (hP : JP m) {w n k : Nat} (hk : k < 256 ∨ 269 ≤ k) : ri (lbM m w n) k = ri m k := by
  rw [ri_wpa]
  exact coM_o hP n (by omega) (by omega)
theorem lbM_p {w n : Nat} : (∀ q, q ≠ 257 → rp (lbM m w n) q = rp m q) ∧ rl (lbM m w n) = rl m ∧ rd (lbM m w n) = rd m := by
  refine ⟨fun q hq => ?_, (coM_rp n).2.1, (coM_rp n).2.2⟩
  funext j
  rw [rp_wpa, if_neg hq]
  exact congrFun (congrFun (coM_rp n).1 q) j
def PI (c : Nat) (p : Nat → Nat) : Prop := ∀ i, i < c → ∀ j, j < c → p i = p j → i = j
theorem swF_PI {c : Nat} {p : Nat → Nat} {a b : Nat} (h : PI c p) (ha : a < c) (hb : b < c) : PI c (swF p a b) := by
  intro i hi j hj e
  have ht : ∀ q, swF p a b q = p (if q = b then a else if q = a then b else q) := by
    intro q
    unfold swF
    split
    · rfl
    · split <;> rfl
  rw [ht, ht] at e
  have e2 := h _ (by split; exact ha; split; exact hb; exact hi) _ (by split; exact ha; split; exact hb; exact hj) e
  split at e2 <;> split at e2 <;> (try split at e2) <;> (try split at e2) <;> omega
theorem rvF_PI {c : Nat} : ∀ (f : Nat) {p : Nat → Nat} {l h : Nat}, PI c p → h < c → PI c (rvF f p l h) := by
  intro f
  induction f with
  | zero => intro p l h hp _; exact hp
  | succ f ih =>
    intro p l h hp hh
    unfold rvF
    split
    · exact ih (swF_PI hp (by omega) hh) (by omega)
    · exact hp
theorem nxU_PI {c cnt : Nat} {u p q : Nat → Nat} (hc : cnt ≤ c) (hu : PI c u) (h : nxU u p cnt = some q) : PI c q := by
  unfold nxU at h
  rcases hr : riseF p (cnt - 1) with _ | a
  · rw [hr] at h; cases h
  · rw [hr] at h
    have ha := riseF_lt hr
    have hg := grF_le (p := p) (a := a) (cnt - 1)
    cases h
    exact rvF_PI _ (swF_PI hu (by omega) (by omega)) (by omega)
theorem lbF_inv {late : (Nat → Nat) → Int32} {cnt c : Nat} (hc : cnt ≤ c) : ∀ (f : Nat) (p : Nat → Nat) (least : Int32), PB c p → PI c p → PB c (lbF late cnt f p least).1 ∧ PI c (lbF late cnt f p least).1 := by
  intro f
  induction f with
  | zero => intro p least h1 h2; exact ⟨h1, h2⟩
  | succ f ih =>
    intro p least h1 h2
    unfold lbF
    rcases hq : nxU p p cnt with _ | q
    · exact ⟨h1, h2⟩
    · exact ih q _ (nxU_PB hc h1 hq) (nxU_PI hc h2 hq)
theorem lrM_JP (hP : JP m) {w n : Nat} : JP (lrM m w n) := by
  unfold JP
  rw [lrM_p.1]
  exact hP
theorem lrM_JV {w n b : Nat} (hJ : JV m b) : JV (lrM m w n) b := by
  unfold JV
  rw [lrM_p.1]
  exact hJ
theorem lbM_JV {w n b : Nat} (hb : b + 1 ≠ 257) (hJ : JV m b) : JV (lbM m w n) b := by
  unfold JV
  rw [lbM_p.1 _ hb]
  exact hJ
theorem lbM_JP (hP : JP m) {w n : Nat} : JP (lbM m w n) := by
  have h6 : cN m w n ≤ 6 := (coM_6 (m := m) (w := ic w) n).1
  have h := lbF_inv (late := lateP (cM m w n) (rp m 257) w (cN m w n)) h6 719 id (lateP (cM m w n) (rp m 257) w (cN m w n) id) (fun i hi => hi) (fun i _ j _ e => e)
  have e : ∀ j, rp (lbM m w n) 257 j = rp m 257 ((lbR m w n).1 j) := fun j => by rw [rp_wpa, if_pos rfl]
  refine ⟨fun i hi => ?_, fun i hi j hj he => ?_⟩
  · rw [e]
    exact hP.1 _ (h.1 i hi)
  · rw [e, e] at he
    exact h.2 _ hi _ hj (hP.2 _ (h.1 i hi) _ (h.1 j hj) he)
/-- the memory behind the checks of the barrows below w -/
def csM (m : mm) (n : Nat) : Nat → mm
  | 0 => m
  | w + 1 => lbM (lrM (csM m n w) w n) w n
theorem csM_o (hP : JP m) {n : Nat} (w : Nat) : JP (csM m n w) ∧ (∀ k, k < 256 ∨ 269 ≤ k → ri (csM m n w) k = ri m k) ∧ (∀ q, q ≠ 257 → rp (csM m n w) q = rp m q) ∧ rl (csM m n w) = rl m ∧ rd (csM m n w) = rd m := by
  induction w with
  | zero => exact ⟨hP, fun _ _ => rfl, fun _ _ => rfl, rfl, rfl⟩
  | succ w ih =>
    obtain ⟨h1, h2, h3, h4, h5⟩ := ih
    have hL := lrM_JP h1 (w := w) (n := n)
    refine ⟨lbM_JP hL, fun k hk => ?_, fun q hq => ?_, ?_, ?_⟩
    · exact (lbM_o hL hk).trans ((lrM_o h1 hk).trans (h2 k hk))
    · exact (lbM_p.1 q hq).trans ((congrFun lrM_p.1 q).trans (h3 q hq))
    · exact lbM_p.2.1.trans (lrM_p.2.1.trans h4)
    · exact lbM_p.2.2.trans (lrM_p.2.2.trans h5)
theorem cntF_congr {P Q : Nat → Prop} [DecidablePred P] [DecidablePred Q] {n : Nat} (h : ∀ i, i < n → (P i ↔ Q i)) : cntF P n = cntF Q n := by
  induction n with
  | zero => rfl
  | succ n ih =>
    unfold cntF
    rw [ih (fun i hi => h i (by omega))]
    by_cases hQ : Q n
    · rw [if_pos hQ, if_pos ((h n (by omega)).mpr hQ)]
    · rw [if_neg hQ, if_neg (fun z => hQ ((h n (by omega)).mp z))]
theorem c_isConsistent (hJ : JV m 1) (hP : JP m) {n : Nat} (hn : ri m 1 1 = ic n) (h12 : n ≤ 12) (hk : ∀ w, w < 3 → kOK (lrM (csM m n w) w n) w n) (he : ∀ w, w < 3 → (lrS (csM m n w) w n).1 5 = (lbR (lrM (csM m n w) w n) w n).2) (hpt : ∀ w, w < 3 → ¬ ic 10 < ic 0 + ri m (3 + (15 + 2 * w) + 1) 0 + ri m (3 + (15 + 2 * w) + 1) 1 + ri m (3 + (15 + 2 * w) + 1) 2 + ri m (3 + (15 + 2 * w) + 1) 3) (ha : ∀ w, w < 3 → cntF (fun i => ri m (rp m 2 i) 7 = ic w) n ≤ 6) (ht : 0 + (ri m 18 3).toInt64 + (ri m 20 3).toInt64 + (ri m 22 3).toInt64 = 10 * rl m 1 7 - 2 * rl m 1 8) : Mt (n0, S0) (d + 17) 69 [.ref n0] (hp n0 G m, N, z) = oI n0 G (csM m n 3) N z (ic 1) := by
  have k1 : kd 1 = 1 := rfl
  have k3 : kd 3 = 3 := rfl
  have k256 : kd 256 = 10 := rfl
  have hcm : ∀ x, lg_cmp x x = ic 0 := fun x => by unfold lg_cmp; simp; rfl
  rw [NMain_isConsistent]
  simp (disch := first | assumption | (show (_ : Nat) < _; omega) | (show (_ : Nat) ≠ _; omega) | (show (_ : Nat) ≤ _; omega) | exact Or.inl rfl | exact Or.inr rfl) only [hG0, hG1, hG2, hF0, hF1, hA0, hA1, xL, xC, icL, Option.bind_some, Nat.le_add_right, Nat.le_refl, if_true, if_false, and_self, true_and, and_true, or_false, false_or, or_true, true_or, and_false, false_and, not_true_eq_false, not_false_eq_true, Nat.reduceAdd, Nat.reduceLeDiff, Nat.reduceLT, Option.toList_some, Option.toList_none, List.cons_append, List.nil_append, callK_ret, callR_ret, callK_thr, decide_true, Bool.true_and, xNr, bI0, bIT, bIF, ne_eq, Classical.not_not, not_false_eq_true, false_or, List.length_nil, icM, ic_lt, ic_eq, le_nl, ↓reduceIte, Nat.lt_irrefl, ri_ws, ri_wn, ri_as, ri_an, upd_s, upd_n, rp_wi, rp_wa, rl_wi, rl_wa, rl_wp, rl_wpa, rl_wl, rp_wl, ri_wl, rp_wd, ri_wd, in_rng, Int32.lt_irrefl, Nat.not_lt_zero, pk_nc, Nat.reduceEqDiff, Nat.succ_ne_self, Nat.one_ne_zero, Nat.add_left_cancel_iff, ri_wpa, ri_wp, QMain_isConsistent_0, QMain_isConsistent_1]
  have step : ∀ w, w < 3 → Rx (n0, S0) (d + 16) 69 2 [some (.ref n0), some (.int (ic w))] [] (hp n0 G (csM m n w), N, z) = Rx (n0, S0) (d + 16) 69 2 [some (.ref n0), some (.int (ic (w + 1)))] [] (hp n0 G (csM m n (w + 1)), N, z) := by
    intro w hw
    obtain ⟨s5, s6⟩ := kd_W hw
    obtain ⟨h1, h2, h3, h4, h5⟩ := csM_o hP (n := n) w
    have hJ1 : JV (csM m n w) 1 := by unfold JV; rw [h3 2 (by decide)]; exact hJ
    have hn1 : ri (csM m n w) 1 1 = ic n := by rw [h2 1 (by omega)]; exact hn
    have a1 := c_leastByRecursion (n0 := n0) (S0 := S0) (G := G) (d := d) (N := N) (z := z) hJ1 h1 hn1 h12 hw
    have hJ2 := lrM_JV hJ1 (w := w) (n := n)
    have hP2 := lrM_JP h1 (w := w) (n := n)
    have hn2 : ri (lrM (csM m n w) w n) 1 1 = ic n := by rw [lrM_o h1 (by omega)]; exact hn1
    have a2 := c_leastByOrders (n0 := n0) (S0 := S0) (G := G) (d := d + 12) (N := N) (z := z) hJ2 hP2 hn2 h12 hw (hk w hw)
    have hJ3 : JV (csM m n (w + 1)) 1 := lbM_JV (by decide) hJ2
    have hn3 : ri (csM m n (w + 1)) 1 1 = ic n := (congrFun (lbM_o (k := 1) hP2 (by omega)) 1).trans hn2
    obtain ⟨g1, g2, g3, g4, g5⟩ := csM_o hP (n := n) (w + 1)
    have a3 := c_countParts (n0 := n0) (S0 := S0) (G := G) (d := d + 15) (N := N) (z := z) (m := csM m n (w + 1)) s5 s6
    rw [g2 _ (by omega)] at a3
    have a4 := c_countAssigned (n0 := n0) (S0 := S0) (G := G) (d := d + 15) (N := N) (z := z) isS_1 hJ3 hn3 h12 (w := ic w)
    have e4 : cntF (fun i => ri (csM m n (w + 1)) (rp (csM m n (w + 1)) (1 + 1) i) 7 = ic w) n = cntF (fun i => ri m (rp m 2 i) 7 = ic w) n := by
      refine cntF_congr (fun i hi => ?_)
      rw [g3 2 (by decide), g2 _ (by have h9 : 1 + 5 ≤ rp m 2 i ∧ rp m 2 i < 1 + 17 := hJ.1 i (by omega); omega)]
    rw [e4] at a4
    have hcp := hpt w hw
    have hca := ha w hw
    have he2 := he w hw
    replace a2 : Mt (n0, S0) (d + 16) 25 [.ref (n0 + 256), .ref (n0 + 1), .int (ic w)] (hp n0 G (lrM (csM m n w) w n), N, z) = oI n0 G (csM m n (w + 1)) N z (lbR (lrM (csM m n w) w n) w n).2 := a2
    generalize hL : (lrS (csM m n w) w n).1 5 = L at a1 he2
    generalize hR : (lbR (lrM (csM m n w) w n) w n).2 = R at a2 he2
    subst he2
    generalize lrM (csM m n w) w n = m1 at a1 a2
    generalize csM m n (w + 1) = m2 at a2 a3 a4 ⊢
    generalize csM m n w = m0 at a1 ⊢
    generalize cntF (fun i => ri m (rp m 2 i) 7 = ic w) n = c at a4 hca
    generalize ic 0 + ri m (3 + (15 + 2 * w) + 1) 0 + ri m (3 + (15 + 2 * w) + 1) 1 + ri m (3 + (15 + 2 * w) + 1) 2 + ri m (3 + (15 + 2 * w) + 1) 3 = P at a3 hcp
    have hca2 : ¬ ic 6 < ic c := by rw [ic_lt (by omega) (by omega)]; omega
    rw [HMain_isConsistent_2]
    simp (disch := first | assumption | (show (_ : Nat) < _; omega) | (show (_ : Nat) ≠ _; omega) | (show (_ : Nat) ≤ _; omega) | exact Or.inl rfl | exact Or.inr rfl) only [hG0, hG1, hG2, hF0, hF1, hA0, hA1, xL, xC, icL, Option.bind_some, Nat.le_add_right, Nat.le_refl, if_true, if_false, and_self, true_and, and_true, or_false, false_or, or_true, true_or, and_false, false_and, not_true_eq_false, not_false_eq_true, Nat.reduceAdd, Nat.reduceLeDiff, Nat.reduceLT, Option.toList_some, Option.toList_none, List.cons_append, List.nil_append, callK_ret, callR_ret, callK_thr, decide_true, Bool.true_and, xNr, bI0, bIT, bIF, ne_eq, Classical.not_not, not_false_eq_true, false_or, List.length_nil, icM, ic_lt, ic_eq, le_nl, ↓reduceIte, Nat.lt_irrefl, ri_ws, ri_wn, ri_as, ri_an, upd_s, upd_n, rp_wi, rp_wa, rl_wi, rl_wa, rl_wp, rl_wpa, rl_wl, rp_wl, ri_wl, rp_wd, ri_wd, in_rng, Int32.lt_irrefl, Nat.not_lt_zero, pk_nc, Nat.reduceEqDiff, Nat.succ_ne_self, Nat.one_ne_zero, Nat.add_left_cancel_iff, ri_wpa, ri_wp, QMain_isConsistent_0, QMain_isConsistent_1, hw, a1, a2, a3, a4, hcp, hca2, ic_add]
  refine (iter (fun w => Rx (n0, S0) (d + 16) 69 2 [some (.ref n0), some (.int (ic w))] [] (hp n0 G (csM m n w), N, z)) 3 step).trans ?_
  obtain ⟨g1, g2, g3, g4, g5⟩ := csM_o hP (n := n) 3
  have b1 := c_totalEarnings (n0 := n0) (S0 := S0) (G := G) (d := d + 15) (N := N) (z := z) (m := csM m n 3)
  have b2 := c_totalByHours (n0 := n0) (S0 := S0) (G := G) (d := d + 15) (N := N) (z := z) (m := csM m n 3)
  rw [g2 _ (by omega), g2 _ (by omega), g2 _ (by omega), ht] at b1
  rw [g4] at b2
  generalize csM m n 3 = m2 at b1 b2 ⊢
  generalize 10 * rl m 1 7 - 2 * rl m 1 8 = T at b1 b2
  rw [HMain_isConsistent_2]
  simp (disch := first | assumption | (show (_ : Nat) < _; omega) | (show (_ : Nat) ≠ _; omega) | (show (_ : Nat) ≤ _; omega) | exact Or.inl rfl | exact Or.inr rfl) only [hG0, hG1, hG2, hF0, hF1, hA0, hA1, xL, xC, icL, Option.bind_some, Nat.le_add_right, Nat.le_refl, if_true, if_false, and_self, true_and, and_true, or_false, false_or, or_true, true_or, and_false, false_and, not_true_eq_false, not_false_eq_true, Nat.reduceAdd, Nat.reduceLeDiff, Nat.reduceLT, Option.toList_some, Option.toList_none, List.cons_append, List.nil_append, callK_ret, callR_ret, callK_thr, decide_true, Bool.true_and, xNr, bI0, bIT, bIF, ne_eq, Classical.not_not, not_false_eq_true, false_or, List.length_nil, icM, ic_lt, ic_eq, le_nl, ↓reduceIte, Nat.lt_irrefl, ri_ws, ri_wn, ri_as, ri_an, upd_s, upd_n, rp_wi, rp_wa, rl_wi, rl_wa, rl_wp, rl_wpa, rl_wl, rp_wl, ri_wl, rp_wd, ri_wd, in_rng, Int32.lt_irrefl, Nat.not_lt_zero, pk_nc, Nat.reduceEqDiff, Nat.succ_ne_self, Nat.one_ne_zero, Nat.add_left_cancel_iff, ri_wpa, ri_wp, QMain_isConsistent_0, QMain_isConsistent_1, b1, b2, hcm]
end C23
