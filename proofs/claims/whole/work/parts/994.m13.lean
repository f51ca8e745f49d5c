/-! the reference's plan answers, its numbers written; expanded by wip/whole/px.py out of wip/whole/m13.src -/
section M13
variable {n0 N z d : Nat} {S0 : Nat → Value} {G : sH} {m : mm}
theorem plR_t {v w n : Nat} {U0 : Nat → Nat} : plR (tM m v) w n U0 = plR m w n U0 := by
  unfold plR
  rw [t_f, ri_wn _ _ _ (by decide)]
theorem m_plansT {w n : Nat} {U0 : Nat → Nat} (hw : w < 3) (hn : ri m 293 0 = ic n) (h12 : n ≤ 12) (hu : ri m 297 = fun i => ic (U0 i)) (h6 : (coU (ri m 293) w U0 n).2 ≤ 6) {R : (Nat → Nat) × Int32 × (Nat → Int32)} (hR : plR m w n U0 = some R) : Mt (n0, S0) (d + 4) 205 [.ref (n0 + 292), .int (ic w)] (hp n0 G (tM m 0), N, z) = some (.inl none, (hp n0 G (rM (tM m 0) (coU (ri m 293) w U0 n).2 R.2.1 R.1 R.2.2), N, z)) := by
  have h := m_plans (n0 := n0) (S0 := S0) (G := G) (m := tM m 0) (N := N) (z := z) (d := d) (U0 := U0) (R := R) hw (by rw [t_f]; exact hn) h12 (by rw [ri_wn _ _ _ (by decide)]; exact hu) (by rw [t_f]; exact h6) (by rw [plR_t]; exact hR)
  rw [t_f] at h
  exact h
theorem m_bestOf {w n : Nat} {U0 : Nat → Nat} (hw : w < 3) (hn : ri m 293 0 = ic n) (h12 : n ≤ 12) (hu : ri m 297 = fun i => ic (U0 i)) (h6 : (coU (ri m 293) w U0 n).2 ≤ 6) {R : (Nat → Nat) × Int32 × (Nat → Int32)} (hR : plR m w n U0 = some R) : Mt (n0, S0) (d + 5) 204 [.ref (n0 + 292), .int (ic w)] (hp n0 G m, N, z) = oI n0 (G) (rM (tM m 0) (coU (ri m 293) w U0 n).2 R.2.1 R.1 R.2.2) N z R.2.1 := by
  have k292 : kd 292 = 18 := rfl
  have h := m_plansT (n0 := n0) (S0 := S0) (G := G) (N := N) (z := z) (d := d) hw hn h12 hu h6 hR
  have h11 : ri (rM (tM m 0) (coU (ri m 293) w U0 n).2 R.2.1 R.1 R.2.2) 292 11 = R.2.1 := rM_11
  have hm : wi m 292 6 (ic 0) = tM m 0 := rfl
  rw [NModel_bestOf]
  generalize hM : rM (tM m 0) (coU (ri m 293) w U0 n).2 R.2.1 R.1 R.2.2 = M at *
  simp (disch := first | assumption | (show (_ : Nat) < _; omega) | (show (_ : Nat) ≠ _; omega) | (show (_ : Nat) ≤ _; omega) | exact Or.inl rfl | exact Or.inr rfl) only [hG0, hG1, hG2, hF0, hF1, hA0, hA1, xL, xC, icL, Option.bind_some, Nat.le_add_right, Nat.le_refl, if_true, if_false, and_self, true_and, and_true, or_false, false_or, or_true, true_or, and_false, false_and, not_true_eq_false, not_false_eq_true, Nat.reduceAdd, Nat.reduceLeDiff, Nat.reduceLT, Option.toList_some, Option.toList_none, List.cons_append, List.nil_append, callK_ret, callR_ret, callK_thr, decide_true, Bool.true_and, xNr, bI0, bIT, bIF, ne_eq, Classical.not_not, not_false_eq_true, false_or, List.length_nil, icM, ic_lt, ic_eq, le_nl, ↓reduceIte, Nat.lt_irrefl, ri_ws, ri_wn, ri_as, ri_an, upd_s, upd_n, rp_wi, rp_wa, rl_wi, rl_wa, rl_wp, rl_wpa, rl_wl, rp_wl, ri_wl, rp_wd, ri_wd, in_rng, Int32.lt_irrefl, Nat.not_lt_zero, pk_nc, Nat.reduceEqDiff, Nat.succ_ne_self, Nat.one_ne_zero, Nat.add_left_cancel_iff, ri_wpa, ri_wp, QModel_bestOf_0, m_isBarrow, hw, m_checkedT, h, h11]
theorem m_bestNo {w : Int32} (hw : ¬ (¬ w < ic 0 ∧ w < ic 3)) : Mt (n0, S0) (d + 3) 204 [.ref (n0 + 292), .int w] (hp n0 G m, N, z) = oI n0 G (tM m 1) N z (ic 0) := by
  have k292 : kd 292 = 18 := rfl
  rw [NModel_bestOf]
  simp (disch := first | assumption | (show (_ : Nat) < _; omega) | (show (_ : Nat) ≠ _; omega) | (show (_ : Nat) ≤ _; omega) | exact Or.inl rfl | exact Or.inr rfl) only [hG0, hG1, hG2, hF0, hF1, hA0, hA1, xL, xC, icL, Option.bind_some, Nat.le_add_right, Nat.le_refl, if_true, if_false, and_self, true_and, and_true, or_false, false_or, or_true, true_or, and_false, false_and, not_true_eq_false, not_false_eq_true, Nat.reduceAdd, Nat.reduceLeDiff, Nat.reduceLT, Option.toList_some, Option.toList_none, List.cons_append, List.nil_append, callK_ret, callR_ret, callK_thr, decide_true, Bool.true_and, xNr, bI0, bIT, bIF, ne_eq, Classical.not_not, not_false_eq_true, false_or, List.length_nil, icM, ic_lt, ic_eq, le_nl, ↓reduceIte, Nat.lt_irrefl, ri_ws, ri_wn, ri_as, ri_an, upd_s, upd_n, rp_wi, rp_wa, rl_wi, rl_wa, rl_wp, rl_wpa, rl_wl, rp_wl, ri_wl, rp_wd, ri_wd, in_rng, Int32.lt_irrefl, Nat.not_lt_zero, pk_nc, Nat.reduceEqDiff, Nat.succ_ne_self, Nat.one_ne_zero, Nat.add_left_cancel_iff, ri_wpa, ri_wp, QModel_bestOf_0, m_isBarrow, hw, m_checkedF]
theorem m_bestLateness {d : Nat} {w : Int32} {m1 : mm} {v : Int32} (h : Mt (n0, S0) d 204 [.ref (n0 + 292), .int w] (hp n0 G m, N, z) = oI n0 G m1 N z v) : Mt (n0, S0) (d + 1) 203 [.ref (n0 + 292), .int w] (hp n0 G m, N, z) = oI n0 G m1 N z v ∧ Mt (n0, S0) (d + 1) 210 [.ref (n0 + 292), .int w] (hp n0 G m, N, z) = oI n0 G m1 N z v := by
  have k292 : kd 292 = 18 := rfl
  rw [NModel_bestLateness, NModel_bestLatenessByOrders]
  exact ⟨by simp (disch := first | assumption | (show (_ : Nat) < _; omega) | (show (_ : Nat) ≠ _; omega) | (show (_ : Nat) ≤ _; omega) | exact Or.inl rfl | exact Or.inr rfl) only [hG0, hG1, hG2, hF0, hF1, hA0, hA1, xL, xC, icL, Option.bind_some, Nat.le_add_right, Nat.le_refl, if_true, if_false, and_self, true_and, and_true, or_false, false_or, or_true, true_or, and_false, false_and, not_true_eq_false, not_false_eq_true, Nat.reduceAdd, Nat.reduceLeDiff, Nat.reduceLT, Option.toList_some, Option.toList_none, List.cons_append, List.nil_append, callK_ret, callR_ret, callK_thr, decide_true, Bool.true_and, xNr, bI0, bIT, bIF, ne_eq, Classical.not_not, not_false_eq_true, false_or, List.length_nil, icM, ic_lt, ic_eq, le_nl, ↓reduceIte, Nat.lt_irrefl, ri_ws, ri_wn, ri_as, ri_an, upd_s, upd_n, rp_wi, rp_wa, rl_wi, rl_wa, rl_wp, rl_wpa, rl_wl, rp_wl, ri_wl, rp_wd, ri_wd, in_rng, Int32.lt_irrefl, Nat.not_lt_zero, pk_nc, Nat.reduceEqDiff, Nat.succ_ne_self, Nat.one_ne_zero, Nat.add_left_cancel_iff, ri_wpa, ri_wp, QModel_bestLateness_0, h], by simp (disch := first | assumption | (show (_ : Nat) < _; omega) | (show (_ : Nat) ≠ _; omega) | (show (_ : Nat) ≤ _; omega) | exact Or.inl rfl | exact Or.inr rfl) only [hG0, hG1, hG2, hF0, hF1, hA0, hA1, xL, xC, icL, Option.bind_some, Nat.le_add_right, Nat.le_refl, if_true, if_false, and_self, true_and, and_true, or_false, false_or, or_true, true_or, and_false, false_and, not_true_eq_false, not_false_eq_true, Nat.reduceAdd, Nat.reduceLeDiff, Nat.reduceLT, Option.toList_some, Option.toList_none, List.cons_append, List.nil_append, callK_ret, callR_ret, callK_thr, decide_true, Bool.true_and, xNr, bI0, bIT, bIF, ne_eq, Classical.not_not, not_false_eq_true, false_or, List.length_nil, icM, ic_lt, ic_eq, le_nl, ↓reduceIte, Nat.lt_irrefl, ri_ws, ri_wn, ri_as, ri_an, upd_s, upd_n, rp_wi, rp_wa, rl_wi, rl_wa, rl_wp, rl_wpa, rl_wl, rp_wl, ri_wl, rp_wd, ri_wd, in_rng, Int32.lt_irrefl, Nat.not_lt_zero, pk_nc, Nat.reduceEqDiff, Nat.succ_ne_self, Nat.one_ne_zero, Nat.add_left_cancel_iff, ri_wpa, ri_wp, QModel_bestLatenessByOrders_0, h]⟩
theorem ic_div {a b : Nat} (h : a < 2147483648) (hb : b < 2147483648) : ic a / ic b = ic (a / b) := by
  apply Int32.toInt_inj.mp
  have h2 : a / b ≤ a := Nat.div_le_self a b
  rw [Int32.toInt_div, ic_toInt h, ic_toInt hb, ic_toInt (by omega), ← Int.ofNat_tdiv]
  have e : ((2 ^ 32 : Nat) : Int) = 4294967296 := rfl
  generalize a / b = q at h2
  unfold Int.bmod
  dsimp only
  rw [e]
  split <;> omega
/-- the reference's output -/
abbrev oM (m : mm) (s : tx) : mm := wa (wi m 292 14 (ic s.1)) 299 (fun i => ic (s.2 i))
theorem oM_oM {s t : tx} : wa (wi (oM m s) 292 14 (ic t.1)) 299 (fun i => ic (t.2 i)) = oM m t := by
  refine mm_ext (fun k => ?_) rfl rfl rfl
  unfold oM wi
  simp only [ri_wa]
  by_cases h2 : k = 299
  · subst h2; simp
  · by_cases h3 : k = 292
    · subst h3
      simp
      funext j
      unfold upd
      by_cases h4 : j = 14 <;> simp [h4]
    · simp [h2, h3]
theorem m_write {s : tx} {x : Nat} (hs : s.1 < 100) : Mt (n0, S0) (d + 1) 223 [.ref (n0 + 292), .int (ic x)] (hp n0 G (oM m s), N, z) = some (.inl none, (hp n0 G (oM m (wC s x)), N, z)) := by
  have k292 : kd 292 = 18 := rfl
  have k299 : kd 299 = 21 := rfl
  have h1 : ri (oM m s) 292 14 = ic s.1 := by rw [ri_an _ _ (by decide), ri_ws, upd_s]
  have e1 : wi (oM m s) 299 s.1 (ic x) = wa (wi m 292 14 (ic s.1)) 299 (fun i => ic (updN s.2 s.1 x i)) := by rw [wi_wa, updU]
  have h2 : ri (wa (wi m 292 14 (ic s.1)) 299 (fun i => ic (updN s.2 s.1 x i))) 292 14 = ic s.1 := by rw [ri_an _ _ (by decide), ri_ws, upd_s]
  have e2 : wi (wa (wi m 292 14 (ic s.1)) 299 (fun i => ic (updN s.2 s.1 x i))) 292 14 (ic (s.1 + 1)) = oM m (wC s x) := by
    refine mm_ext (fun k => ?_) rfl rfl rfl
    unfold oM wi wC
    simp only [ri_wa]
    by_cases h2 : k = 299
    · subst h2; simp
    · by_cases h3 : k = 292
      · subst h3
        simp
        funext j
        unfold upd
        by_cases h4 : j = 14 <;> simp [h4]
      · simp [h2, h3]
  rw [NModel_write]
  generalize wa (wi m 292 14 (ic s.1)) 299 (fun i => ic (updN s.2 s.1 x i)) = M2 at *
  generalize hM : oM m s = M1 at *
  simp (disch := first | assumption | (show (_ : Nat) < _; omega) | (show (_ : Nat) ≠ _; omega) | (show (_ : Nat) ≤ _; omega) | exact Or.inl rfl | exact Or.inr rfl) only [hG0, hG1, hG2, hF0, hF1, hA0, hA1, xL, xC, icL, Option.bind_some, Nat.le_add_right, Nat.le_refl, if_true, if_false, and_self, true_and, and_true, or_false, false_or, or_true, true_or, and_false, false_and, not_true_eq_false, not_false_eq_true, Nat.reduceAdd, Nat.reduceLeDiff, Nat.reduceLT, Option.toList_some, Option.toList_none, List.cons_append, List.nil_append, callK_ret, callR_ret, callK_thr, decide_true, Bool.true_and, xNr, bI0, bIT, bIF, ne_eq, Classical.not_not, not_false_eq_true, false_or, List.length_nil, icM, ic_lt, ic_eq, le_nl, ↓reduceIte, Nat.lt_irrefl, ri_ws, ri_wn, ri_as, ri_an, upd_s, upd_n, rp_wi, rp_wa, rl_wi, rl_wa, rl_wp, rl_wpa, rl_wl, rp_wl, ri_wl, rp_wd, ri_wd, in_rng, Int32.lt_irrefl, Nat.not_lt_zero, pk_nc, Nat.reduceEqDiff, Nat.succ_ne_self, Nat.one_ne_zero, Nat.add_left_cancel_iff, ri_wpa, ri_wp, QModel_write_0, h1, hs, e1, h2, ic_add, e2]
end M13
