/-! the class's State: the copy, ranks; expanded by wip/whole/px.py out of wip/whole/c6.src -/
def cpf (n : Nat) (f g : Nat → Int32) : Nat → Int32 := fun q => if q < n then f q else g q
theorem wi_wa (m : mm) (k i : Nat) (f : Nat → Int32) (v : Int32) : wi (wa m k f) k i v = wa m k (upd f i v) := by
  unfold wi
  rw [wa_wa, ri_as]
theorem va_cpf (f g : Nat → Int32) (n : Nat) : va_cpy f g 0 0 n = cpf n f g := by
  funext q
  unfold va_cpy cpf
  by_cases h : q < n
  · rw [if_pos (by omega), if_pos h, show 0 + (q - 0) = q by omega]
  · rw [if_neg (by omega), if_neg h]
theorem wi8 (m : mm) (k : Nat) (a : Nat → Int32) : wi (wi (wi (wi (wi (wi (wi (wi m k 0 (a 0)) k 1 (a 1)) k 2 (a 2)) k 3 (a 3)) k 4 (a 4)) k 5 (a 5)) k 6 (a 6)) k 7 (a 7) = wa m k (cpf 8 a (ri m k)) := by
  rw [show wi m k 0 (a 0) = wa m k (upd (ri m k) 0 (a 0)) from rfl]
  simp only [wi_wa]
  refine congrArg (wa m k) ?_
  funext q
  unfold cpf
  by_cases h : q < 8
  · rw [if_pos h]
    rcases (show q = 0 ∨ q = 1 ∨ q = 2 ∨ q = 3 ∨ q = 4 ∨ q = 5 ∨ q = 6 ∨ q = 7 by omega) with rfl | rfl | rfl | rfl | rfl | rfl | rfl | rfl <;> simp [upd]
  · rw [if_neg h]
    repeat rw [upd_n _ _ (by omega)]
theorem wi4 (m : mm) (k : Nat) (a : Nat → Int32) : wi (wi (wi (wi m k 0 (a 0)) k 1 (a 1)) k 2 (a 2)) k 3 (a 3) = wa m k (cpf 4 a (ri m k)) := by
  rw [show wi m k 0 (a 0) = wa m k (upd (ri m k) 0 (a 0)) from rfl]
  simp only [wi_wa]
  refine congrArg (wa m k) ?_
  funext q
  unfold cpf
  by_cases h : q < 4
  · rw [if_pos h]
    rcases (show q = 0 ∨ q = 1 ∨ q = 2 ∨ q = 3 by omega) with rfl | rfl | rfl | rfl <;> simp [upd]
  · rw [if_neg h]
    repeat rw [upd_n _ _ (by omega)]
theorem isS_apart {b c : Nat} (hb : isS b) (hc : isS c) (h : c ≠ b) : b + 23 ≤ c ∨ c + 23 ≤ b := by
  rcases hb with rfl | rfl | ⟨r, hr, rfl⟩ <;> rcases hc with rfl | rfl | ⟨q, hq, rfl⟩ <;> omega
section C6
variable {n0 N z d b c : Nat} {S0 : Nat → Value} {G : sH} {m : mm}
def cJ (m : mm) (b c : Nat) : Nat → mm
  | 0 => m
  | i + 1 => wa (cJ m b c i) (rp m (b + 1) i) (cpf 8 (ri m (rp m (c + 1) i)) (ri m (rp m (b + 1) i)))
theorem cJ_rp (i : Nat) : rp (cJ m b c i) = rp m ∧ rl (cJ m b c i) = rl m ∧ rd (cJ m b c i) = rd m := by
  induction i with
  | zero => exact ⟨rfl, rfl, rfl⟩
  | succ i ih => exact ih
theorem cJ_ri {q : Nat} (i : Nat) (h : ∀ j, j < i → q ≠ rp m (b + 1) j) : ri (cJ m b c i) q = ri m q := by
  induction i with
  | zero => rfl
  | succ i ih =>
    show ri (wa _ _ _) q = _
    rw [ri_an _ _ (h i (by omega))]
    exact ih fun j hj => h j (by omega)
theorem cJ_at (hJ : JV m b) (i : Nat) (hi : i ≤ 12) {j : Nat} (hj : j < i) : ri (cJ m b c i) (rp m (b + 1) j) = cpf 8 (ri m (rp m (c + 1) j)) (ri m (rp m (b + 1) j)) := by
  induction i with
  | zero => omega
  | succ i ih =>
    show ri (wa _ _ _) _ = _
    by_cases e : j = i
    · subst e
      rw [ri_as]
    · rw [ri_an _ _ (fun z => e (hJ.2 j (by omega) i (by omega) z))]
      exact ih (by omega) (by omega)
def cB (m0 m : mm) (b c : Nat) : Nat → mm
  | 0 => m0
  | w + 1 => wa (wa (cB m0 m b c w) ((b + 2 + (15 + 2 * w))) (cpf 4 (ri m ((c + 2 + (15 + 2 * w)))) (ri m ((b + 2 + (15 + 2 * w)))))) ((b + 2 + (15 + 2 * w)) + 1) (cpf 4 (ri m ((c + 2 + (15 + 2 * w)) + 1)) (ri m ((b + 2 + (15 + 2 * w)) + 1)))
theorem cB_rp {m0 : mm} (w : Nat) : rp (cB m0 m b c w) = rp m0 ∧ rl (cB m0 m b c w) = rl m0 ∧ rd (cB m0 m b c w) = rd m0 := by
  induction w with
  | zero => exact ⟨rfl, rfl, rfl⟩
  | succ w ih => exact ih
theorem cB_ri {m0 : mm} {q : Nat} (w : Nat) (h : q < b + 17 ∨ b + 17 + 2 * w ≤ q) : ri (cB m0 m b c w) q = ri m0 q := by
  induction w with
  | zero => rfl
  | succ w ih =>
    show ri (wa (wa _ _ _) _ _) q = _
    rw [ri_an _ _ (by omega), ri_an _ _ (by omega)]
    exact ih (by omega)
theorem cB_at {m0 : mm} (w : Nat) {v : Nat} (hv : v < w) : ri (cB m0 m b c w) ((b + 2 + (15 + 2 * v))) = cpf 4 (ri m ((c + 2 + (15 + 2 * v)))) (ri m ((b + 2 + (15 + 2 * v)))) ∧ ri (cB m0 m b c w) ((b + 2 + (15 + 2 * v)) + 1) = cpf 4 (ri m ((c + 2 + (15 + 2 * v)) + 1)) (ri m ((b + 2 + (15 + 2 * v)) + 1)) := by
  induction w with
  | zero => omega
  | succ w ih =>
    refine ⟨?_, ?_⟩
    · show ri (wa (wa _ _ _) _ _) _ = _
      rw [ri_an _ _ (by omega)]
      by_cases e : v = w
      · subst e
        rw [ri_as]
      · rw [ri_an _ _ (by omega)]
        exact (ih (by omega)).1
    · show ri (wa (wa _ _ _) _ _) _ = _
      by_cases e : v = w
      · subst e
        rw [ri_as]
      · rw [ri_an _ _ (by omega), ri_an _ _ (by omega)]
        exact (ih (by omega)).2
/-- the state c copied into the state b -/
def cpA (m : mm) (b c : Nat) : mm := wi (wi (cJ m b c 12) b 1 (ri m c 1)) b 2 (ri m c 2)
def cpM (m : mm) (b c : Nat) : mm := wl (wl (wi (wa (wa (cB (cpA m b c) m b c 3) (b + 3) (cpf 4 (ri m (c + 3)) (ri m (b + 3)))) (b + 4) (cpf 6 (ri m (c + 4)) (ri m (b + 4)))) b 6 (ri m c 6)) b 7 (rl m c 7)) b 8 (rl m c 8)
theorem cpA_ri {q : Nat} (hJ : JV m b) (h : q ≠ b) (h2 : q < b + 5 ∨ b + 17 ≤ q) : ri (cpA m b c) q = ri m q := by
  unfold cpA
  rw [ri_wn _ _ _ h, ri_wn _ _ _ h]
  exact cJ_ri 12 fun j hj => by have := hJ.1 j hj; omega
theorem cpA_rp : rp (cpA m b c) = rp m ∧ rl (cpA m b c) = rl m ∧ rd (cpA m b c) = rd m := by
  unfold cpA
  rw [rp_wi, rp_wi, rl_wi, rl_wi, rd_wi, rd_wi]
  exact cJ_rp 12
theorem c_copyFrom (hb : isS b) (hc : isS c) (hbc : c ≠ b) (hJ : JV m b) (hJc : JV m c) : Mt (n0, S0) (d + 2) 44 [.ref (n0 + b), .ref (n0 + c)] (hp n0 G m, N, z) = some (.inl none, (hp n0 G (cpM m b c), N, z)) := by
  obtain ⟨s0, s1, s2, s3, s4⟩ := kd_S0 hb
  obtain ⟨t0, t1, t2, t3, t4⟩ := kd_S0 hc
  have hap := isS_apart hb hc hbc
  rw [NState_copyFrom]
  simp (disch := first | assumption | (show (_ : Nat) < _; omega) | (show (_ : Nat) ≠ _; omega) | (show (_ : Nat) ≤ _; omega)) only [hG0, hG1, hG2, hF0, hF1, hA0, hA1, xL, xC, icL, Option.bind_some, Nat.le_add_right, Nat.le_refl, if_true, if_false, and_self, true_and, and_true, or_false, false_or, or_true, true_or, and_false, false_and, not_true_eq_false, not_false_eq_true, Nat.reduceAdd, Nat.reduceLeDiff, Nat.reduceLT, Option.toList_some, Option.toList_none, List.cons_append, List.nil_append, callK_ret, callR_ret, callK_thr, decide_true, Bool.true_and, xNr, bI0, bIT, bIF, ne_eq, Classical.not_not, not_false_eq_true, false_or, List.length_nil, ic_lt, ic_eq, le_nl, ↓reduceIte, Nat.lt_irrefl, ri_ws, ri_wn, ri_as, ri_an, upd_s, upd_n, rp_wi, rp_wa, rl_wi, rl_wa, rl_wp, rl_wpa, rl_wl, rp_wl, ri_wl, rp_wd, ri_wd, in_rng, Int32.lt_irrefl, Nat.not_lt_zero, pk_nc, Nat.reduceEqDiff, Nat.succ_ne_self, Nat.one_ne_zero, Nat.add_left_cancel_iff, ri_wpa, ri_wp, QState_copyFrom_0, QState_copyFrom_1, QState_copyFrom_2]
  have step : ∀ i, i < 12 → Rx (n0, S0) (d + 1) 44 2 [some (.ref (n0 + b)), some (.ref (n0 + c)), some (.int (ic i))] [] (hp n0 G (cJ m b c i), N, z) = Rx (n0, S0) (d + 1) 44 2 [some (.ref (n0 + b)), some (.ref (n0 + c)), some (.int (ic (i + 1)))] [] (hp n0 G (cJ m b c (i + 1)), N, z) := by
    intro i hi
    rw [HState_copyFrom_2]
    have hk := hJ.kd hb hi
    have hk2 := hJc.kd hc hi
    have g1 := hJ.1 i hi
    have g2 := hJc.1 i hi
    have hne : rp m (c + 1) i ≠ rp m (b + 1) i := by omega
    have e1 : ri (cJ m b c i) (rp m (c + 1) i) = ri m (rp m (c + 1) i) := cJ_ri i fun j hj => by have := hJ.1 j (by omega); omega
    have e2 : ri (cJ m b c i) (rp m (b + 1) i) = ri m (rp m (b + 1) i) := cJ_ri i fun j hj z => by have := hJ.2 i hi j (by omega) z; omega
    clear hap g1 g2
    simp (disch := first | assumption | (show (_ : Nat) < _; omega) | (show (_ : Nat) ≠ _; omega) | (show (_ : Nat) ≤ _; omega)) only [hG0, hG1, hG2, hF0, hF1, hA0, hA1, xL, xC, icL, Option.bind_some, Nat.le_add_right, Nat.le_refl, if_true, if_false, and_self, true_and, and_true, or_false, false_or, or_true, true_or, and_false, false_and, not_true_eq_false, not_false_eq_true, Nat.reduceAdd, Nat.reduceLeDiff, Nat.reduceLT, Option.toList_some, Option.toList_none, List.cons_append, List.nil_append, callK_ret, callR_ret, callK_thr, decide_true, Bool.true_and, xNr, bI0, bIT, bIF, ne_eq, Classical.not_not, not_false_eq_true, false_or, List.length_nil, ic_lt, ic_eq, le_nl, ↓reduceIte, Nat.lt_irrefl, ri_ws, ri_wn, ri_as, ri_an, upd_s, upd_n, rp_wi, rp_wa, rl_wi, rl_wa, rl_wp, rl_wpa, rl_wl, rp_wl, ri_wl, rp_wd, ri_wd, in_rng, Int32.lt_irrefl, Nat.not_lt_zero, pk_nc, Nat.reduceEqDiff, Nat.succ_ne_self, Nat.one_ne_zero, Nat.add_left_cancel_iff, ri_wpa, ri_wp, QState_copyFrom_0, QState_copyFrom_1, QState_copyFrom_2, hi, (cJ_rp (m := m) (b := b) (c := c) i).1, hk, hk2, c_jobCopy hk hk2 hne, ic_add, wi8, e1, e2, cJ]
  refine (iter (fun i => Rx (n0, S0) (d + 1) 44 2 [some (.ref (n0 + b)), some (.ref (n0 + c)), some (.int (ic i))] [] (hp n0 G (cJ m b c i), N, z)) 12 step).trans ?_
  rw [HState_copyFrom_2]
  have f1 : ri (cJ m b c 12) c = ri m c := cJ_ri 12 fun j hj => by have := hJ.1 j (by omega); omega
  have hne : c ≠ rp m (b + 1) 0 := fun z => by have := hJ.1 0 (by omega); omega
  simp (disch := first | assumption | (show (_ : Nat) < _; omega) | (show (_ : Nat) ≠ _; omega) | (show (_ : Nat) ≤ _; omega)) only [hG0, hG1, hG2, hF0, hF1, hA0, hA1, xL, xC, icL, Option.bind_some, Nat.le_add_right, Nat.le_refl, if_true, if_false, and_self, true_and, and_true, or_false, false_or, or_true, true_or, and_false, false_and, not_true_eq_false, not_false_eq_true, Nat.reduceAdd, Nat.reduceLeDiff, Nat.reduceLT, Option.toList_some, Option.toList_none, List.cons_append, List.nil_append, callK_ret, callR_ret, callK_thr, decide_true, Bool.true_and, xNr, bI0, bIT, bIF, ne_eq, Classical.not_not, not_false_eq_true, false_or, List.length_nil, ic_lt, ic_eq, le_nl, ↓reduceIte, Nat.lt_irrefl, ri_ws, ri_wn, ri_as, ri_an, upd_s, upd_n, rp_wi, rp_wa, rl_wi, rl_wa, rl_wp, rl_wpa, rl_wl, rp_wl, ri_wl, rp_wd, ri_wd, in_rng, Int32.lt_irrefl, Nat.not_lt_zero, pk_nc, Nat.reduceEqDiff, Nat.succ_ne_self, Nat.one_ne_zero, Nat.add_left_cancel_iff, ri_wpa, ri_wp, QState_copyFrom_0, QState_copyFrom_1, QState_copyFrom_2, f1]
  have step2 : ∀ w, w < 3 → Rx (n0, S0) (d + 1) 44 47 [some (.ref (n0 + b)), some (.ref (n0 + c)), some (.int (ic w))] [] (hp n0 G (cB (cpA m b c) m b c w), N, z) = Rx (n0, S0) (d + 1) 44 47 [some (.ref (n0 + b)), some (.ref (n0 + c)), some (.int (ic (w + 1)))] [] (hp n0 G (cB (cpA m b c) m b c (w + 1)), N, z) := by
    intro w hw
    rw [HState_copyFrom_47]
    obtain ⟨s5, s6⟩ := kd_SW hb hw
    obtain ⟨t5, t6⟩ := kd_SW hc hw
    have g : ∀ q, (q < b + 17 ∨ b + 17 + 2 * w ≤ q) → q ≠ b → (q < b + 5 ∨ b + 17 ≤ q) → ri (cB (cpA m b c) m b c w) q = ri m q := fun q h1 h2 h3 => (cB_ri w h1).trans (cpA_ri hJ h2 h3)
    have e1 := g ((b + 2 + (15 + 2 * w))) (by omega) (by omega) (by omega)
    have e2 := g ((b + 2 + (15 + 2 * w)) + 1) (by omega) (by omega) (by omega)
    have e3 := g ((c + 2 + (15 + 2 * w))) (by omega) (by omega) (by omega)
    have e4 := g ((c + 2 + (15 + 2 * w)) + 1) (by omega) (by omega) (by omega)
    have hbar := fun (d N z : Nat) (G : sH) (m : mm) => c_barrowCopy (n0 := n0) (S0 := S0) (G := G) (d := d) (N := N) (z := z) (m := m) s5 s6 t5 t6 (by omega) (by omega) (by omega) (by omega)
    clear hap g
    simp (disch := first | assumption | (show (_ : Nat) < _; omega) | (show (_ : Nat) ≠ _; omega) | (show (_ : Nat) ≤ _; omega)) only [hG0, hG1, hG2, hF0, hF1, hA0, hA1, xL, xC, icL, Option.bind_some, Nat.le_add_right, Nat.le_refl, if_true, if_false, and_self, true_and, and_true, or_false, false_or, or_true, true_or, and_false, false_and, not_true_eq_false, not_false_eq_true, Nat.reduceAdd, Nat.reduceLeDiff, Nat.reduceLT, Option.toList_some, Option.toList_none, List.cons_append, List.nil_append, callK_ret, callR_ret, callK_thr, decide_true, Bool.true_and, xNr, bI0, bIT, bIF, ne_eq, Classical.not_not, not_false_eq_true, false_or, List.length_nil, ic_lt, ic_eq, le_nl, ↓reduceIte, Nat.lt_irrefl, ri_ws, ri_wn, ri_as, ri_an, upd_s, upd_n, rp_wi, rp_wa, rl_wi, rl_wa, rl_wp, rl_wpa, rl_wl, rp_wl, ri_wl, rp_wd, ri_wd, in_rng, Int32.lt_irrefl, Nat.not_lt_zero, pk_nc, Nat.reduceEqDiff, Nat.succ_ne_self, Nat.one_ne_zero, Nat.add_left_cancel_iff, ri_wpa, ri_wp, QState_copyFrom_0, QState_copyFrom_1, QState_copyFrom_2, hw, hbar, ic_add, wi4, va_cpf, e1, e2, e3, e4, cB]
  have hA : wi (wi (cJ m b c 12) b 1 (ri m c 1)) b 2 (ri m c 2) = cpA m b c := rfl
  rw [hA]
  refine (iter (fun w => Rx (n0, S0) (d + 1) 44 47 [some (.ref (n0 + b)), some (.ref (n0 + c)), some (.int (ic w))] [] (hp n0 G (cB (cpA m b c) m b c w), N, z)) 3 step2).trans ?_
  rw [HState_copyFrom_47]
  have g : ∀ q, (q < b + 17 ∨ b + 23 ≤ q) → q ≠ b → (q < b + 5 ∨ b + 17 ≤ q) → ri (cB (cpA m b c) m b c 3) q = ri m q := fun q h1 h2 h3 => (cB_ri 3 (by omega)).trans (cpA_ri hJ h2 h3)
  have e1 := g (b + 3) (by omega) (by omega) (by omega)
  have e2 := g (b + 4) (by omega) (by omega) (by omega)
  have e3 := g (c + 3) (by omega) (by omega) (by omega)
  have e4 := g (c + 4) (by omega) (by omega) (by omega)
  have e5 := g c (by omega) (by omega) (by omega)
  have e6 : rl (cB (cpA m b c) m b c 3) = rl m := ((cB_rp 3).2.1).trans cpA_rp.2.1
  have h1 : c + 3 ≠ b + 3 := by omega
  have h2 : c + 4 ≠ b + 4 := by omega
  have h3 : c + 4 ≠ b + 3 := by omega
  have h4 : c ≠ b + 3 := by omega
  have h5 : c ≠ b + 4 := by omega
  clear hap g
  simp (disch := first | assumption | (show (_ : Nat) < _; omega) | (show (_ : Nat) ≠ _; omega) | (show (_ : Nat) ≤ _; omega)) only [hG0, hG1, hG2, hF0, hF1, hA0, hA1, xL, xC, icL, Option.bind_some, Nat.le_add_right, Nat.le_refl, if_true, if_false, and_self, true_and, and_true, or_false, false_or, or_true, true_or, and_false, false_and, not_true_eq_false, not_false_eq_true, Nat.reduceAdd, Nat.reduceLeDiff, Nat.reduceLT, Option.toList_some, Option.toList_none, List.cons_append, List.nil_append, callK_ret, callR_ret, callK_thr, decide_true, Bool.true_and, xNr, bI0, bIT, bIF, ne_eq, Classical.not_not, not_false_eq_true, false_or, List.length_nil, ic_lt, ic_eq, le_nl, ↓reduceIte, Nat.lt_irrefl, ri_ws, ri_wn, ri_as, ri_an, upd_s, upd_n, rp_wi, rp_wa, rl_wi, rl_wa, rl_wp, rl_wpa, rl_wl, rp_wl, ri_wl, rp_wd, ri_wd, in_rng, Int32.lt_irrefl, Nat.not_lt_zero, pk_nc, Nat.reduceEqDiff, Nat.succ_ne_self, Nat.one_ne_zero, Nat.add_left_cancel_iff, ri_wpa, ri_wp, QState_copyFrom_0, QState_copyFrom_1, QState_copyFrom_2, va_cpf, e1, e2, e3, e4, e5, e6, cpM]
end C6
