/-! the reference's writePlan; expanded by wip/whole/px.py out of wip/whole/m18.src -/
section M18
variable {n0 N z d : Nat} {S0 : Nat → Value} {G : sH} {m : mm}
theorem m_writePlan {w n : Nat} {U0 : Nat → Nat} (hw : w < 3) (hn : ri m 293 0 = ic n) (h12 : n ≤ 12) (hu : ri m 297 = fun i => ic (U0 i)) (h6 : (coU (ri m 293) w U0 n).2 ≤ 6) {R : (Nat → Nat) × Int32 × (Nat → Int32)} (hR : plR m w n U0 = some R) {V : Nat → Nat} (hV : ∀ i, i < (coU (ri m 293) w U0 n).2 → R.2.2 i = ic (V i) ∧ V i < 12) {f : Nat → Nat} (hf : ri m 299 = fun i => ic (f i)) {O F : Nat → Nat} (hO : ∀ i, i < (coU (ri m 293) w U0 n).2 → ri m 293 (42 + 8 * V i + 0) = ic (O i) ∧ O i < 100000) (hF : ∀ i, i < (coU (ri m 293) w U0 n).2 → (mlF (fun i => rwJ (ri m 293) (V i)) (ri m 293 (18 + 8 * w + 0)) (ri m 293 (18 + 8 * w + 1)) (ri m 293 (18 + 8 * w + 2)) (i + 1)).2.2.1 = ic (F i) ∧ F i < 100000) : Mt (n0, S0) (d + 5) 224 [.ref (n0 + 292), .int (ic w)] (hp n0 G m, N, z) = oI n0 G (oM (rM (tM m 0) (coU (ri m 293) w U0 n).2 R.2.1 R.1 R.2.2) (plF O F (0, f) (coU (ri m 293) w U0 n).2)) N z (ic (plF O F (0, f) (coU (ri m 293) w U0 n).2).1) := by
  have k292 : kd 292 = 18 := rfl
  have h := m_plansT (n0 := n0) (S0 := S0) (G := G) (N := N) (z := z) (d := d) hw hn h12 hu h6 hR
  have h10 : ri (rM (tM m 0) (coU (ri m 293) w U0 n).2 R.2.1 R.1 R.2.2) 292 10 = ic (coU (ri m 293) w U0 n).2 := rM_10
  have h298 : ri (rM (tM m 0) (coU (ri m 293) w U0 n).2 R.2.1 R.1 R.2.2) 298 = R.2.2 := rM_298
  have h293 : ri (rM (tM m 0) (coU (ri m 293) w U0 n).2 R.2.1 R.1 R.2.2) 293 = ri m 293 := by rw [rM_o (by decide) (by decide) (by decide), t_f]
  have h299 : ri (rM (tM m 0) (coU (ri m 293) w U0 n).2 R.2.1 R.1 R.2.2) 299 = fun i => ic (f i) := by rw [rM_o (by decide) (by decide) (by decide), ri_wn _ _ _ (by decide)]; exact hf
  have e0 := oM_start h299
  generalize hM : rM (tM m 0) (coU (ri m 293) w U0 n).2 R.2.1 R.1 R.2.2 = M at *
  generalize (coU (ri m 293) w U0 n).2 = c at *
  have r : ri (oM M (0, f)) 293 = ri m 293 := by rw [oM_o (by decide) (by decide)]; exact h293
  have w0 := fun d N z => m_w (n0 := n0) (S0 := S0) (G := G) (d := d) (N := N) (z := z) (m := oM M (0, f)) (a := w) (o := 0) (by omega)
  have w1 := fun d N z => m_w (n0 := n0) (S0 := S0) (G := G) (d := d) (N := N) (z := z) (m := oM M (0, f)) (a := w) (o := 1) (by omega)
  have w2 := fun d N z => m_w (n0 := n0) (S0 := S0) (G := G) (d := d) (N := N) (z := z) (m := oM M (0, f)) (a := w) (o := 2) (by omega)
  rw [r] at w0 w1 w2
  obtain ⟨l6, hl⟩ := mp_loop (n0 := n0) (S0 := S0) (G := G) (N := N) (z := z) (d := d) (m := M) (cnt := c) h10 h6 (V := V) (by rw [h298]; exact hV) (x := ri m 293 (18 + 8 * w + 0)) (y := ri m 293 (18 + 8 * w + 1)) (c := ri m 293 (18 + 8 * w + 2)) (O := O) (F := F) (by rw [h293]; exact hO) (by rw [h293]; exact hF) (l1 := ic w) (s := (0, f)) rfl c (Nat.le_refl _)
  rw [h293] at hl
  have g10 : ri (oM M (plF O F (0, f) c)) 292 10 = ic c := by rw [ri_an _ _ (by decide), ri_ws, upd_n _ _ (by decide)]; exact h10
  have g14 : ri (oM M (plF O F (0, f) c)) 292 14 = ic (plF O F (0, f) c).1 := oM_14
  rw [NModel_writePlan]
  generalize mlF (fun i => rwJ (ri m 293) (V i)) (ri m 293 (18 + 8 * w + 0)) (ri m 293 (18 + 8 * w + 1)) (ri m 293 (18 + 8 * w + 2)) c = T at *
  generalize ri m 293 (18 + 8 * w + 0) = x at *
  generalize ri m 293 (18 + 8 * w + 1) = y at *
  generalize ri m 293 (18 + 8 * w + 2) = cl at *
  generalize oM M (plF O F (0, f) c) = M3 at *
  generalize (plF O F (0, f) c).1 = LL at *
  generalize oM M (0, f) = M2 at *
  simp (disch := first | assumption | (show (_ : Nat) < _; omega) | (show (_ : Nat) ≠ _; omega) | (show (_ : Nat) ≤ _; omega) | exact Or.inl rfl | exact Or.inr rfl) only [hG0, hG1, hG2, hF0, hF1, hA0, hA1, xL, xC, icL, Option.bind_some, Nat.le_add_right, Nat.le_refl, if_true, if_false, and_self, true_and, and_true, or_false, false_or, or_true, true_or, and_false, false_and, not_true_eq_false, not_false_eq_true, Nat.reduceAdd, Nat.reduceLeDiff, Nat.reduceLT, Option.toList_some, Option.toList_none, List.cons_append, List.nil_append, callK_ret, callR_ret, callK_thr, decide_true, Bool.true_and, xNr, bI0, bIT, bIF, ne_eq, Classical.not_not, not_false_eq_true, false_or, List.length_nil, icM, ic_lt, ic_eq, le_nl, ↓reduceIte, Nat.lt_irrefl, ri_ws, ri_wn, ri_as, ri_an, upd_s, upd_n, rp_wi, rp_wa, rl_wi, rl_wa, rl_wp, rl_wpa, rl_wl, rp_wl, ri_wl, rp_wd, ri_wd, in_rng, Int32.lt_irrefl, Nat.not_lt_zero, pk_nc, Nat.reduceEqDiff, Nat.succ_ne_self, Nat.one_ne_zero, Nat.add_left_cancel_iff, ri_wpa, ri_wp, QModel_writePlan_0, QModel_writePlan_1, QModel_writePlan_2, QModel_writePlan_3, m_isBarrow, hw, m_checkedT, h, e0, w0, w1, w2]
  rw [hl, HModel_writePlan_48]
  simp (disch := first | assumption | (show (_ : Nat) < _; omega) | (show (_ : Nat) ≠ _; omega) | (show (_ : Nat) ≤ _; omega) | exact Or.inl rfl | exact Or.inr rfl) only [hG0, hG1, hG2, hF0, hF1, hA0, hA1, xL, xC, icL, Option.bind_some, Nat.le_add_right, Nat.le_refl, if_true, if_false, and_self, true_and, and_true, or_false, false_or, or_true, true_or, and_false, false_and, not_true_eq_false, not_false_eq_true, Nat.reduceAdd, Nat.reduceLeDiff, Nat.reduceLT, Option.toList_some, Option.toList_none, List.cons_append, List.nil_append, callK_ret, callR_ret, callK_thr, decide_true, Bool.true_and, xNr, bI0, bIT, bIF, ne_eq, Classical.not_not, not_false_eq_true, false_or, List.length_nil, icM, ic_lt, ic_eq, le_nl, ↓reduceIte, Nat.lt_irrefl, ri_ws, ri_wn, ri_as, ri_an, upd_s, upd_n, rp_wi, rp_wa, rl_wi, rl_wa, rl_wp, rl_wpa, rl_wl, rp_wl, ri_wl, rp_wd, ri_wd, in_rng, Int32.lt_irrefl, Nat.not_lt_zero, pk_nc, Nat.reduceEqDiff, Nat.succ_ne_self, Nat.one_ne_zero, Nat.add_left_cancel_iff, ri_wpa, ri_wp, QModel_writePlan_0, QModel_writePlan_1, QModel_writePlan_2, QModel_writePlan_3, g10, g14]
end M18
