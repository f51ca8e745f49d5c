/-! the reference: repair, drive, rest, commit; expanded by wip/whole/px.py out of wip/whole/m4.src -/
section M4
variable {n0 N z d : Nat} {S0 : Nat → Value} {G : sH} {m : mm}
theorem m_cannotRepBar {w job : Int32} (hw : ¬ (¬ w < ic 0 ∧ w < ic 3)) : Mt (n0, S0) (d + 3) 167 [.ref (n0 + 292), .int w, .int job] (hp n0 G m, N, z) = oI n0 G m N z (ic 1) := by
  have k292 : kd 292 = 18 := rfl
  have k293 : kd 293 = 19 := rfl
  rw [NModel_cannotRepair]
  simp (disch := first | assumption | (show (_ : Nat) < _; omega) | (show (_ : Nat) ≠ _; omega) | (show (_ : Nat) ≤ _; omega) | exact Or.inl rfl | exact Or.inr rfl) only [hG0, hG1, hG2, hF0, hF1, hA0, hA1, xL, xC, icL, Option.bind_some, Nat.le_add_right, Nat.le_refl, if_true, if_false, and_self, true_and, and_true, or_false, false_or, or_true, true_or, and_false, false_and, not_true_eq_false, not_false_eq_true, Nat.reduceAdd, Nat.reduceLeDiff, Nat.reduceLT, Option.toList_some, Option.toList_none, List.cons_append, List.nil_append, callK_ret, callR_ret, callK_thr, decide_true, Bool.true_and, xNr, bI0, bIT, bIF, ne_eq, Classical.not_not, not_false_eq_true, false_or, List.length_nil, icM, ic_lt, ic_eq, le_nl, ↓reduceIte, Nat.lt_irrefl, ri_ws, ri_wn, ri_as, ri_an, upd_s, upd_n, rp_wi, rp_wa, rl_wi, rl_wa, rl_wp, rl_wpa, rl_wl, rp_wl, ri_wl, rp_wd, ri_wd, in_rng, Int32.lt_irrefl, Nat.not_lt_zero, pk_nc, Nat.reduceEqDiff, Nat.succ_ne_self, Nat.one_ne_zero, Nat.add_left_cancel_iff, ri_wpa, ri_wp, QModel_cannotRepair_0, QModel_cannotRepair_1, m_isBarrow, hw]
theorem m_cannotRepNo {n : Nat} (hn : ri m 293 0 = ic n) (h12 : n ≤ 12) {w job : Int32} (hw : (¬ w < ic 0 ∧ w < ic 3)) (h : fdF (ri m 293) n job = none) : Mt (n0, S0) (d + 3) 167 [.ref (n0 + 292), .int w, .int job] (hp n0 G m, N, z) = oI n0 G m N z (ic 2) := by
  have k292 : kd 292 = 18 := rfl
  have k293 : kd 293 = 19 := rfl
  rw [NModel_cannotRepair]
  simp (disch := first | assumption | (show (_ : Nat) < _; omega) | (show (_ : Nat) ≠ _; omega) | (show (_ : Nat) ≤ _; omega) | exact Or.inl rfl | exact Or.inr rfl) only [hG0, hG1, hG2, hF0, hF1, hA0, hA1, xL, xC, icL, Option.bind_some, Nat.le_add_right, Nat.le_refl, if_true, if_false, and_self, true_and, and_true, or_false, false_or, or_true, true_or, and_false, false_and, not_true_eq_false, not_false_eq_true, Nat.reduceAdd, Nat.reduceLeDiff, Nat.reduceLT, Option.toList_some, Option.toList_none, List.cons_append, List.nil_append, callK_ret, callR_ret, callK_thr, decide_true, Bool.true_and, xNr, bI0, bIT, bIF, ne_eq, Classical.not_not, not_false_eq_true, false_or, List.length_nil, icM, ic_lt, ic_eq, le_nl, ↓reduceIte, Nat.lt_irrefl, ri_ws, ri_wn, ri_as, ri_an, upd_s, upd_n, rp_wi, rp_wa, rl_wi, rl_wa, rl_wp, rl_wpa, rl_wl, rp_wl, ri_wl, rp_wd, ri_wd, in_rng, Int32.lt_irrefl, Nat.not_lt_zero, pk_nc, Nat.reduceEqDiff, Nat.succ_ne_self, Nat.one_ne_zero, Nat.add_left_cancel_iff, ri_wpa, ri_wp, QModel_cannotRepair_0, QModel_cannotRepair_1, m_isBarrow, hw, m_find hn h12, h, oN]
theorem m_cannotRepair {n : Nat} (hn : ri m 293 0 = ic n) (h12 : n ≤ 12) {w a t k : Nat} {job : Int32} (hw : w < 3) (h : fdF (ri m 293) n job = some a) (ht : ri m 293 (42 + 8 * a + 4) = ic t) (ht6 : t < 6) (hk : ri m 293 (42 + 8 * a + 3) = ic (97 + k)) (hk4 : k < 4) : Mt (n0, S0) (d + 3) 167 [.ref (n0 + 292), .int (ic w), .int job] (hp n0 G m, N, z) = oI n0 G m N z (if ri m 293 (12 + t) = ic w + ic 1 then (if ic 0 < ri m 293 (18 + 8 * w + (4 + k)) then ic 0 else ic 4) else ic 3) := by
  have k292 : kd 292 = 18 := rfl
  have k293 : kd 293 = 19 := rfl
  have ha : a < 12 := by have := fndA_lt _ _ _ h; omega
  have h1 := fun (d N z : Nat) => m_hasTool (n0 := n0) (S0 := S0) (G := G) (m := m) (d := d) (N := N) (z := z) (w := w) ha ht ht6
  have h2 := fun (d N z : Nat) => m_hasPart (n0 := n0) (S0 := S0) (G := G) (m := m) (d := d) (N := N) (z := z) hw ha hk hk4
  rw [NModel_cannotRepair]
  by_cases g1 : ri m 293 (12 + t) = ic w + ic 1 <;> by_cases g2 : ic 0 < ri m 293 (18 + 8 * w + (4 + k)) <;> simp (disch := first | assumption | (show (_ : Nat) < _; omega) | (show (_ : Nat) ≠ _; omega) | (show (_ : Nat) ≤ _; omega) | exact Or.inl rfl | exact Or.inr rfl) only [hG0, hG1, hG2, hF0, hF1, hA0, hA1, xL, xC, icL, Option.bind_some, Nat.le_add_right, Nat.le_refl, if_true, if_false, and_self, true_and, and_true, or_false, false_or, or_true, true_or, and_false, false_and, not_true_eq_false, not_false_eq_true, Nat.reduceAdd, Nat.reduceLeDiff, Nat.reduceLT, Option.toList_some, Option.toList_none, List.cons_append, List.nil_append, callK_ret, callR_ret, callK_thr, decide_true, Bool.true_and, xNr, bI0, bIT, bIF, ne_eq, Classical.not_not, not_false_eq_true, false_or, List.length_nil, icM, ic_lt, ic_eq, le_nl, ↓reduceIte, Nat.lt_irrefl, ri_ws, ri_wn, ri_as, ri_an, upd_s, upd_n, rp_wi, rp_wa, rl_wi, rl_wa, rl_wp, rl_wpa, rl_wl, rp_wl, ri_wl, rp_wd, ri_wd, in_rng, Int32.lt_irrefl, Nat.not_lt_zero, pk_nc, Nat.reduceEqDiff, Nat.succ_ne_self, Nat.one_ne_zero, Nat.add_left_cancel_iff, ri_wpa, ri_wp, QModel_cannotRepair_0, QModel_cannotRepair_1, m_isBarrow, hw, m_find hn h12, h, oN, h1, h2, g1, g2]
def latF (f : Nat → Int32) (w a : Nat) : Int32 := if f (42 + 8 * a + 6) < finF f w a then finF f w a - f (42 + 8 * a + 6) else ic 0
def repF (f : Nat → Int32) (w a k : Nat) : Nat → Int32 := upd (upd (upd (upd (upd (upd (upd (upd f (18 + 8 * w + 2) (finF f w a)) (18 + 8 * w) (f (42 + 8 * a + 1))) (18 + 8 * w + 1) (f (42 + 8 * a + 2))) (18 + 8 * w + (4 + k)) (f (18 + 8 * w + (4 + k)) - ic 1)) (18 + 8 * w + 3) (f (18 + 8 * w + 3) + ic 10 * f (42 + 8 * a + 5) - ic 2 * latF f w a)) 4 (f 4 + f (42 + 8 * a + 5))) 3 (f 3 + latF f w a)) 2 (f 2 + ic 1)
theorem m_repairs {n : Nat} (hn : ri m 293 0 = ic n) (h12 : n ≤ 12) {w a k : Nat} {job : Int32} (hw : w < 3) (h : fdF (ri m 293) n job = some a) (hk : ri m 293 (42 + 8 * a + 3) = ic (97 + k)) (hk4 : k < 4) : Mt (n0, S0) (d + 4) 170 [.ref (n0 + 292), .int (ic w), .int job] (hp n0 G m, N, z) = oI n0 G (wa m 293 (rmF (repF (ri m 293) w a k) n a)) N z (ic 2 * latF (ri m 293) w a) := by
  have k292 : kd 292 = 18 := rfl
  have k293 : kd 293 = 19 := rfl
  have ha : a < n := by have := fndA_lt _ _ _ h; omega
  have e2 : ic (4 + (97 + k)) - ic 97 = ic (4 + k) := (ic_sub (by omega)).trans (congrArg ic (by omega))
  have hn' : ri (wa m 293 (repF (ri m 293) w a k)) 293 0 = ic n := by
    rw [ri_as]
    unfold repF
    repeat rw [upd_n _ _ (by omega)]
    exact hn
  have hr := fun (d N z : Nat) => m_removes (n0 := n0) (S0 := S0) (G := G) (m := wa m 293 (repF (ri m 293) w a k)) (d := d) (N := N) (z := z) hn' h12 ha
  rw [ri_as] at hr
  rw [NModel_repairs]
  by_cases hl : ri m 293 (42 + 8 * a + 6) < finF (ri m 293) w a
  · have hL : latF (ri m 293) w a = finF (ri m 293) w a - ri m 293 (42 + 8 * a + 6) := if_pos hl
    rw [hL]
    unfold repF at hr ⊢
    rw [hL] at hr ⊢
    simp (disch := first | assumption | (show (_ : Nat) < _; omega) | (show (_ : Nat) ≠ _; omega) | (show (_ : Nat) ≤ _; omega) | exact Or.inl rfl | exact Or.inr rfl) only [hG0, hG1, hG2, hF0, hF1, hA0, hA1, xL, xC, icL, Option.bind_some, Nat.le_add_right, Nat.le_refl, if_true, if_false, and_self, true_and, and_true, or_false, false_or, or_true, true_or, and_false, false_and, not_true_eq_false, not_false_eq_true, Nat.reduceAdd, Nat.reduceLeDiff, Nat.reduceLT, Option.toList_some, Option.toList_none, List.cons_append, List.nil_append, callK_ret, callR_ret, callK_thr, decide_true, Bool.true_and, xNr, bI0, bIT, bIF, ne_eq, Classical.not_not, not_false_eq_true, false_or, List.length_nil, icM, ic_lt, ic_eq, le_nl, ↓reduceIte, Nat.lt_irrefl, ri_ws, ri_wn, ri_as, ri_an, upd_s, upd_n, rp_wi, rp_wa, rl_wi, rl_wa, rl_wp, rl_wpa, rl_wl, rp_wl, ri_wl, rp_wd, ri_wd, in_rng, Int32.lt_irrefl, Nat.not_lt_zero, pk_nc, Nat.reduceEqDiff, Nat.succ_ne_self, Nat.one_ne_zero, Nat.add_left_cancel_iff, ri_wpa, ri_wp, QModel_repairs_0, QModel_repairs_1, QModel_repairs_2, QModel_repairs_3, QModel_repairs_4, m_find hn h12, h, oN, m_finishOf, m_j, m_w, hl, m_setBarrow, hk, ic_add, e2, Nat.add_zero, wi_chain, wa_wa, hr]
  · have hL : latF (ri m 293) w a = ic 0 := if_neg hl
    rw [hL]
    unfold repF at hr ⊢
    rw [hL] at hr ⊢
    simp (disch := first | assumption | (show (_ : Nat) < _; omega) | (show (_ : Nat) ≠ _; omega) | (show (_ : Nat) ≤ _; omega) | exact Or.inl rfl | exact Or.inr rfl) only [hG0, hG1, hG2, hF0, hF1, hA0, hA1, xL, xC, icL, Option.bind_some, Nat.le_add_right, Nat.le_refl, if_true, if_false, and_self, true_and, and_true, or_false, false_or, or_true, true_or, and_false, false_and, not_true_eq_false, not_false_eq_true, Nat.reduceAdd, Nat.reduceLeDiff, Nat.reduceLT, Option.toList_some, Option.toList_none, List.cons_append, List.nil_append, callK_ret, callR_ret, callK_thr, decide_true, Bool.true_and, xNr, bI0, bIT, bIF, ne_eq, Classical.not_not, not_false_eq_true, false_or, List.length_nil, icM, ic_lt, ic_eq, le_nl, ↓reduceIte, Nat.lt_irrefl, ri_ws, ri_wn, ri_as, ri_an, upd_s, upd_n, rp_wi, rp_wa, rl_wi, rl_wa, rl_wp, rl_wpa, rl_wl, rp_wl, ri_wl, rp_wd, ri_wd, in_rng, Int32.lt_irrefl, Nat.not_lt_zero, pk_nc, Nat.reduceEqDiff, Nat.succ_ne_self, Nat.one_ne_zero, Nat.add_left_cancel_iff, ri_wpa, ri_wp, QModel_repairs_0, QModel_repairs_1, QModel_repairs_2, QModel_repairs_3, QModel_repairs_4, m_find hn h12, h, oN, m_finishOf, m_j, m_w, hl, m_setBarrow, hk, ic_add, e2, Nat.add_zero, wi_chain, wa_wa, hr]
def drvF (f : Nat → Int32) (w : Nat) : Nat → Int32 := upd (upd (upd f (18 + 8 * w + 2) (f (18 + 8 * w + 2) + f (18 + 8 * w) + f (18 + 8 * w + 1))) (18 + 8 * w) (ic 0)) (18 + 8 * w + 1) (ic 0)
theorem m_drivesHome {w : Nat} (hw : w < 3) : Mt (n0, S0) (d + 2) 175 [.ref (n0 + 292), .int (ic w)] (hp n0 G m, N, z) = oI n0 G (wa m 293 (drvF (ri m 293) w)) N z (ri m 293 (18 + 8 * w + 2) + ri m 293 (18 + 8 * w) + ri m 293 (18 + 8 * w + 1)) := by
  have k292 : kd 292 = 18 := rfl
  have k293 : kd 293 = 19 := rfl
  rw [NModel_drivesHome]
  simp (disch := first | assumption | (show (_ : Nat) < _; omega) | (show (_ : Nat) ≠ _; omega) | (show (_ : Nat) ≤ _; omega) | exact Or.inl rfl | exact Or.inr rfl) only [hG0, hG1, hG2, hF0, hF1, hA0, hA1, xL, xC, icL, Option.bind_some, Nat.le_add_right, Nat.le_refl, if_true, if_false, and_self, true_and, and_true, or_false, false_or, or_true, true_or, and_false, false_and, not_true_eq_false, not_false_eq_true, Nat.reduceAdd, Nat.reduceLeDiff, Nat.reduceLT, Option.toList_some, Option.toList_none, List.cons_append, List.nil_append, callK_ret, callR_ret, callK_thr, decide_true, Bool.true_and, xNr, bI0, bIT, bIF, ne_eq, Classical.not_not, not_false_eq_true, false_or, List.length_nil, icM, ic_lt, ic_eq, le_nl, ↓reduceIte, Nat.lt_irrefl, ri_ws, ri_wn, ri_as, ri_an, upd_s, upd_n, rp_wi, rp_wa, rl_wi, rl_wa, rl_wp, rl_wpa, rl_wl, rp_wl, ri_wl, rp_wd, ri_wd, in_rng, Int32.lt_irrefl, Nat.not_lt_zero, pk_nc, Nat.reduceEqDiff, Nat.succ_ne_self, Nat.one_ne_zero, Nat.add_left_cancel_iff, ri_wpa, ri_wp, QModel_drivesHome_0, QModel_drivesHome_1, m_w, m_setBarrow, Nat.add_zero, wi_chain, wa_wa, drvF]
theorem m_rests {w : Nat} (hw : w < 3) {h : Int32} : Mt (n0, S0) (d + 2) 178 [.ref (n0 + 292), .int (ic w), .int h] (hp n0 G m, N, z) = oI n0 G (wi m 293 (18 + 8 * w + 2) (ri m 293 (18 + 8 * w + 2) + h)) N z (ri m 293 (18 + 8 * w + 2) + h) := by
  have k292 : kd 292 = 18 := rfl
  have k293 : kd 293 = 19 := rfl
  rw [NModel_rests]
  simp (disch := first | assumption | (show (_ : Nat) < _; omega) | (show (_ : Nat) ≠ _; omega) | (show (_ : Nat) ≤ _; omega) | exact Or.inl rfl | exact Or.inr rfl) only [hG0, hG1, hG2, hF0, hF1, hA0, hA1, xL, xC, icL, Option.bind_some, Nat.le_add_right, Nat.le_refl, if_true, if_false, and_self, true_and, and_true, or_false, false_or, or_true, true_or, and_false, false_and, not_true_eq_false, not_false_eq_true, Nat.reduceAdd, Nat.reduceLeDiff, Nat.reduceLT, Option.toList_some, Option.toList_none, List.cons_append, List.nil_append, callK_ret, callR_ret, callK_thr, decide_true, Bool.true_and, xNr, bI0, bIT, bIF, ne_eq, Classical.not_not, not_false_eq_true, false_or, List.length_nil, icM, ic_lt, ic_eq, le_nl, ↓reduceIte, Nat.lt_irrefl, ri_ws, ri_wn, ri_as, ri_an, upd_s, upd_n, rp_wi, rp_wa, rl_wi, rl_wa, rl_wp, rl_wpa, rl_wl, rp_wl, ri_wl, rp_wd, ri_wd, in_rng, Int32.lt_irrefl, Nat.not_lt_zero, pk_nc, Nat.reduceEqDiff, Nat.succ_ne_self, Nat.one_ne_zero, Nat.add_left_cancel_iff, ri_wpa, ri_wp, QModel_rests_0, m_w, m_setBarrow]
theorem m_cannotRest {w h : Int32} {σ : sS} : Mt (n0, S0) (d + 3) 177 [.int w, .int h] σ = some (.inl (some (.int (if (¬ w < ic 0 ∧ w < ic 3) then (if (¬ h < ic 1 ∧ h < ic 100) then ic 0 else ic 2) else ic 1))), σ) := by
  rw [NModel_cannotRest]
  by_cases h1 : (¬ w < ic 0 ∧ w < ic 3)
  · by_cases h2 : (¬ h < ic 1 ∧ h < ic 100) <;> simp (disch := first | assumption | (show (_ : Nat) < _; omega) | (show (_ : Nat) ≠ _; omega) | (show (_ : Nat) ≤ _; omega) | exact Or.inl rfl | exact Or.inr rfl) only [hG0, hG1, hG2, hF0, hF1, hA0, hA1, xL, xC, icL, Option.bind_some, Nat.le_add_right, Nat.le_refl, if_true, if_false, and_self, true_and, and_true, or_false, false_or, or_true, true_or, and_false, false_and, not_true_eq_false, not_false_eq_true, Nat.reduceAdd, Nat.reduceLeDiff, Nat.reduceLT, Option.toList_some, Option.toList_none, List.cons_append, List.nil_append, callK_ret, callR_ret, callK_thr, decide_true, Bool.true_and, xNr, bI0, bIT, bIF, ne_eq, Classical.not_not, not_false_eq_true, false_or, List.length_nil, icM, ic_lt, ic_eq, le_nl, ↓reduceIte, Nat.lt_irrefl, ri_ws, ri_wn, ri_as, ri_an, upd_s, upd_n, rp_wi, rp_wa, rl_wi, rl_wa, rl_wp, rl_wpa, rl_wl, rp_wl, ri_wl, rp_wd, ri_wd, in_rng, Int32.lt_irrefl, Nat.not_lt_zero, pk_nc, Nat.reduceEqDiff, Nat.succ_ne_self, Nat.one_ne_zero, Nat.add_left_cancel_iff, ri_wpa, ri_wp, QModel_cannotRest_0, m_isBarrow, m_in', h1, h2]
  · simp (disch := first | assumption | (show (_ : Nat) < _; omega) | (show (_ : Nat) ≠ _; omega) | (show (_ : Nat) ≤ _; omega) | exact Or.inl rfl | exact Or.inr rfl) only [hG0, hG1, hG2, hF0, hF1, hA0, hA1, xL, xC, icL, Option.bind_some, Nat.le_add_right, Nat.le_refl, if_true, if_false, and_self, true_and, and_true, or_false, false_or, or_true, true_or, and_false, false_and, not_true_eq_false, not_false_eq_true, Nat.reduceAdd, Nat.reduceLeDiff, Nat.reduceLT, Option.toList_some, Option.toList_none, List.cons_append, List.nil_append, callK_ret, callR_ret, callK_thr, decide_true, Bool.true_and, xNr, bI0, bIT, bIF, ne_eq, Classical.not_not, not_false_eq_true, false_or, List.length_nil, icM, ic_lt, ic_eq, le_nl, ↓reduceIte, Nat.lt_irrefl, ri_ws, ri_wn, ri_as, ri_an, upd_s, upd_n, rp_wi, rp_wa, rl_wi, rl_wa, rl_wp, rl_wpa, rl_wl, rp_wl, ri_wl, rp_wd, ri_wd, in_rng, Int32.lt_irrefl, Nat.not_lt_zero, pk_nc, Nat.reduceEqDiff, Nat.succ_ne_self, Nat.one_ne_zero, Nat.add_left_cancel_iff, ri_wpa, ri_wp, QModel_cannotRest_0, m_isBarrow, h1]
/-- the history moved down by k places -/
def shK (k : Nat) (g : Nat → Int32) : Nat → Int32 := fun x => if x < 140 * k then g (x + 140) else g x
theorem shK_step (g : Nat → Int32) {i : Nat} : cpR 140 (140 * (i + 1)) (140 * i) (shK i g) (shK i g) = shK (i + 1) g := by
  funext x
  unfold cpR shK
  by_cases h : 140 * i ≤ x ∧ x < 140 * i + 140
  · rw [if_pos h, if_neg (by omega), if_pos (by omega), show 140 * (i + 1) + (x - 140 * i) = x + 140 by omega]
  · rw [if_neg h]
    by_cases h2 : x < 140 * i
    · rw [if_pos h2, if_pos (by omega)]
    · rw [if_neg h2, if_neg (by omega)]
/-- the change done: what was before goes to the history -/
def cmM (m : mm) (dp : Nat) : mm := if dp = 8 then wi (wa (wi (wa m 296 (shK 7 (ri m 296))) 292 7 (ic 7)) 296 (cpR 140 0 980 (ri m 294) (shK 7 (ri m 296)))) 292 7 (ic 8) else wi (wa m 296 (cpR 140 0 (140 * dp) (ri m 294) (ri m 296))) 292 7 (ic (dp + 1))
theorem m_commit {dp : Nat} (hd : ri m 292 7 = ic dp) (h8 : dp ≤ 8) {r : Int32} : Mt (n0, S0) (d + 2) 138 [.ref (n0 + 292), .int r] (hp n0 G m, N, z) = oI n0 G (cmM m dp) N z r := by
  have k292 : kd 292 = 18 := rfl
  have k294 : kd 294 = 19 := rfl
  have k296 : kd 296 = 20 := rfl
  have hcp := fun (q : Nat) (hq : q < 8) (m : mm) (d N z : Nat) => m_copy (n0 := n0) (S0 := S0) (G := G) (d := d) (N := N) (z := z) (m := m) (k1 := 294) (k2 := 296) (p := 0) (q := 140 * q) (fun _ j hj => by rw [Nat.zero_add]; exact ald19 k294 (by omega)) (fun _ j _ hj => ast20 k296 (by omega)) (Or.inl (by decide))
  rw [NModel_commit]
  unfold cmM
  by_cases h : dp = 8
  · subst h
    rw [if_pos rfl]
    simp (disch := first | assumption | (show (_ : Nat) < _; omega) | (show (_ : Nat) ≠ _; omega) | (show (_ : Nat) ≤ _; omega) | exact Or.inl rfl | exact Or.inr rfl) only [hG0, hG1, hG2, hF0, hF1, hA0, hA1, xL, xC, icL, Option.bind_some, Nat.le_add_right, Nat.le_refl, if_true, if_false, and_self, true_and, and_true, or_false, false_or, or_true, true_or, and_false, false_and, not_true_eq_false, not_false_eq_true, Nat.reduceAdd, Nat.reduceLeDiff, Nat.reduceLT, Option.toList_some, Option.toList_none, List.cons_append, List.nil_append, callK_ret, callR_ret, callK_thr, decide_true, Bool.true_and, xNr, bI0, bIT, bIF, ne_eq, Classical.not_not, not_false_eq_true, false_or, List.length_nil, icM, ic_lt, ic_eq, le_nl, ↓reduceIte, Nat.lt_irrefl, ri_ws, ri_wn, ri_as, ri_an, upd_s, upd_n, rp_wi, rp_wa, rl_wi, rl_wa, rl_wp, rl_wpa, rl_wl, rp_wl, ri_wl, rp_wd, ri_wd, in_rng, Int32.lt_irrefl, Nat.not_lt_zero, pk_nc, Nat.reduceEqDiff, Nat.succ_ne_self, Nat.one_ne_zero, Nat.add_left_cancel_iff, ri_wpa, ri_wp, QModel_commit_0, QModel_commit_1, hd]
    have hsh := fun (i : Nat) (hi : i < 7) (m : mm) (d N z : Nat) => m_copy (n0 := n0) (S0 := S0) (G := G) (d := d) (N := N) (z := z) (m := m) (k1 := 296) (k2 := 296) (p := 140 * (i + 1)) (q := 140 * i) (fun _ j hj => ald20 k296 (by omega)) (fun _ j _ hj => ast20 k296 (by omega)) (Or.inr (by omega))
    have step : ∀ i, i < 7 → Rx (n0, S0) (d + 1) 138 11 [some (.ref (n0 + 292)), some (.int r), some (.int (ic (i + 1)))] [] (hp n0 G (wa m 296 (shK i (ri m 296))), N, z) = Rx (n0, S0) (d + 1) 138 11 [some (.ref (n0 + 292)), some (.int r), some (.int (ic (i + 1 + 1)))] [] (hp n0 G (wa m 296 (shK (i + 1) (ri m 296))), N, z) := by
      intro i hi
      have h9 : i + 1 < 8 := by omega
      have e : ic (i + 1) - ic 1 = ic i := ic_sub (by omega)
      have h7 := hsh i hi
      rw [HModel_commit_11]
      simp (disch := first | assumption | (show (_ : Nat) < _; omega) | (show (_ : Nat) ≠ _; omega) | (show (_ : Nat) ≤ _; omega) | exact Or.inl rfl | exact Or.inr rfl) only [hG0, hG1, hG2, hF0, hF1, hA0, hA1, xL, xC, icL, Option.bind_some, Nat.le_add_right, Nat.le_refl, if_true, if_false, and_self, true_and, and_true, or_false, false_or, or_true, true_or, and_false, false_and, not_true_eq_false, not_false_eq_true, Nat.reduceAdd, Nat.reduceLeDiff, Nat.reduceLT, Option.toList_some, Option.toList_none, List.cons_append, List.nil_append, callK_ret, callR_ret, callK_thr, decide_true, Bool.true_and, xNr, bI0, bIT, bIF, ne_eq, Classical.not_not, not_false_eq_true, false_or, List.length_nil, icM, ic_lt, ic_eq, le_nl, ↓reduceIte, Nat.lt_irrefl, ri_ws, ri_wn, ri_as, ri_an, upd_s, upd_n, rp_wi, rp_wa, rl_wi, rl_wa, rl_wp, rl_wpa, rl_wl, rp_wl, ri_wl, rp_wd, ri_wd, in_rng, Int32.lt_irrefl, Nat.not_lt_zero, pk_nc, Nat.reduceEqDiff, Nat.succ_ne_self, Nat.one_ne_zero, Nat.add_left_cancel_iff, ri_wpa, ri_wp, QModel_commit_0, QModel_commit_1, h9, e, ic_mul, ic_add, h7, wa_wa, shK_step]
    have e0 : shK 0 (ri m 296) = ri m 296 := by
      funext x
      unfold shK
      rw [if_neg (by omega)]
    have hl := iter (fun i => Rx (n0, S0) (d + 1) 138 11 [some (.ref (n0 + 292)), some (.int r), some (.int (ic (i + 1)))] [] (hp n0 G (wa m 296 (shK i (ri m 296))), N, z)) 7 step
    try dsimp only at hl
    rw [e0, wa_self] at hl
    refine hl.trans ?_
    have hc7 := hcp 7 (by omega)
    have h87 : ic 8 - ic 1 = ic 7 := rfl
    rw [HModel_commit_11]
    simp (disch := first | assumption | (show (_ : Nat) < _; omega) | (show (_ : Nat) ≠ _; omega) | (show (_ : Nat) ≤ _; omega) | exact Or.inl rfl | exact Or.inr rfl) only [hG0, hG1, hG2, hF0, hF1, hA0, hA1, xL, xC, icL, Option.bind_some, Nat.le_add_right, Nat.le_refl, if_true, if_false, and_self, true_and, and_true, or_false, false_or, or_true, true_or, and_false, false_and, not_true_eq_false, not_false_eq_true, Nat.reduceAdd, Nat.reduceLeDiff, Nat.reduceLT, Option.toList_some, Option.toList_none, List.cons_append, List.nil_append, callK_ret, callR_ret, callK_thr, decide_true, Bool.true_and, xNr, bI0, bIT, bIF, ne_eq, Classical.not_not, not_false_eq_true, false_or, List.length_nil, icM, ic_lt, ic_eq, le_nl, ↓reduceIte, Nat.lt_irrefl, ri_ws, ri_wn, ri_as, ri_an, upd_s, upd_n, rp_wi, rp_wa, rl_wi, rl_wa, rl_wp, rl_wpa, rl_wl, rp_wl, ri_wl, rp_wd, ri_wd, in_rng, Int32.lt_irrefl, Nat.not_lt_zero, pk_nc, Nat.reduceEqDiff, Nat.succ_ne_self, Nat.one_ne_zero, Nat.add_left_cancel_iff, ri_wpa, ri_wp, QModel_commit_0, QModel_commit_1, hd, h87, ic_mul, Nat.reduceMul, hc7, ic_add]
  · rw [if_neg h]
    have hc7 := hcp dp (by omega)
    simp (disch := first | assumption | (show (_ : Nat) < _; omega) | (show (_ : Nat) ≠ _; omega) | (show (_ : Nat) ≤ _; omega) | exact Or.inl rfl | exact Or.inr rfl) only [hG0, hG1, hG2, hF0, hF1, hA0, hA1, xL, xC, icL, Option.bind_some, Nat.le_add_right, Nat.le_refl, if_true, if_false, and_self, true_and, and_true, or_false, false_or, or_true, true_or, and_false, false_and, not_true_eq_false, not_false_eq_true, Nat.reduceAdd, Nat.reduceLeDiff, Nat.reduceLT, Option.toList_some, Option.toList_none, List.cons_append, List.nil_append, callK_ret, callR_ret, callK_thr, decide_true, Bool.true_and, xNr, bI0, bIT, bIF, ne_eq, Classical.not_not, not_false_eq_true, false_or, List.length_nil, icM, ic_lt, ic_eq, le_nl, ↓reduceIte, Nat.lt_irrefl, ri_ws, ri_wn, ri_as, ri_an, upd_s, upd_n, rp_wi, rp_wa, rl_wi, rl_wa, rl_wp, rl_wpa, rl_wl, rp_wl, ri_wl, rp_wd, ri_wd, in_rng, Int32.lt_irrefl, Nat.not_lt_zero, pk_nc, Nat.reduceEqDiff, Nat.succ_ne_self, Nat.one_ne_zero, Nat.add_left_cancel_iff, ri_wpa, ri_wp, QModel_commit_0, QModel_commit_1, hd, h, ic_mul, hc7, ic_add]
end M4
