/-! the reference's writeBarrow; expanded by wip/whole/px.py out of wip/whole/m15.src -/
section M15
variable {n0 N z d : Nat} {S0 : Nat → Value} {G : sH} {m : mm}
theorem oM_start {f : Nat → Nat} (hf : ri m 299 = fun i => ic (f i)) : wi m 292 14 (ic 0) = oM m (0, f) := by
  show _ = wa (wi m 292 14 (ic 0)) 299 (fun i => ic (f i))
  rw [← hf, ← ri_wn m 14 (ic 0) (show (299 : Nat) ≠ 292 by decide), wa_self]
theorem oM_o {s : tx} {k : Nat} (h1 : k ≠ 292) (h2 : k ≠ 299) : ri (oM m s) k = ri m k := by rw [ri_an _ _ h2, ri_wn _ _ _ h1]
theorem oM_14 {s : tx} : ri (oM m s) 292 14 = ic s.1 := by rw [ri_an _ _ (by decide), ri_ws, upd_s]
theorem mw_tools {w : Nat} {s : tx} (hs : s.1 ≤ 50) : ∀ t, t ≤ 6 → Rx (n0, S0) (d + 4) 221 73 [some (.ref (n0 + 292)), some (.int (ic w)), some (.int (ic 0))] [] (hp n0 G (oM m s), N, z) = Rx (n0, S0) (d + 4) 221 73 [some (.ref (n0 + 292)), some (.int (ic w)), some (.int (ic t))] [] (hp n0 G (oM m (tlF (fun t => ri m 293 (12 + t) = ic (w + 1)) s t)), N, z) := by
  have k292 : kd 292 = 18 := rfl
  have k293 : kd 293 = 19 := rfl
  intro t
  induction t with
  | zero => intro _; rfl
  | succ t ih =>
    intro ht
    have hle := tlF_le (fun t => ri m 293 (12 + t) = ic (w + 1)) s t
    have hS : tlF (fun t => ri m 293 (12 + t) = ic (w + 1)) s (t + 1) = if ri m 293 (12 + t) = ic (w + 1) then wI (wT (tlF (fun t => ri m 293 (12 + t) = ic (w + 1)) s t)) t else tlF (fun t => ri m 293 (12 + t) = ic (w + 1)) s t := rfl
    rw [hS]
    refine (ih (by omega)).trans ?_
    generalize tlF (fun t => ri m 293 (12 + t) = ic (w + 1)) s t = s1 at *
    have ht6 : t < 6 := by omega
    have h293 : ri (oM m s1) 293 = ri m 293 := oM_o (by decide) (by decide)
    have dt := dgn_b t
    have w1 := fun d N z => m_write (n0 := n0) (S0 := S0) (G := G) (m := m) (N := N) (z := z) (d := d) (s := s1) (x := 32) (by omega)
    have w2 := fun d N z => m_write (n0 := n0) (S0 := S0) (G := G) (m := m) (N := N) (z := z) (d := d) (s := wC s1 32) (x := 116) (by show s1.1 + 1 < 100; omega)
    have w3 := fun d N z => m_writeNumber (n0 := n0) (S0 := S0) (G := G) (m := m) (N := N) (z := z) (d := d) (s := wC (wC s1 32) 116) (v := t) (by omega) (by show s1.1 + 1 + 1 + dgn t ≤ 100; omega)
    have hg : ∀ A B, A = oM m s1 → B = oM m (wC s1 32) → True := fun _ _ _ _ => trivial
    rw [HModel_writeBarrow_73]
    have c116 : (116 : Int32) = ic 116 := rfl
    by_cases h : ri m 293 (12 + t) = ic (w + 1)
    · rw [if_pos h]
      unfold wT
      generalize oM m s1 = M1 at *
      generalize oM m (wC s1 32) = M2 at *
      generalize oM m (wC (wC s1 32) 116) = M3 at *
      simp (disch := first | assumption | (show (_ : Nat) < _; omega) | (show (_ : Nat) ≠ _; omega) | (show (_ : Nat) ≤ _; omega) | exact Or.inl rfl | exact Or.inr rfl) only [hG0, hG1, hG2, hF0, hF1, hA0, hA1, xL, xC, icL, Option.bind_some, Nat.le_add_right, Nat.le_refl, if_true, if_false, and_self, true_and, and_true, or_false, false_or, or_true, true_or, and_false, false_and, not_true_eq_false, not_false_eq_true, Nat.reduceAdd, Nat.reduceLeDiff, Nat.reduceLT, Option.toList_some, Option.toList_none, List.cons_append, List.nil_append, callK_ret, callR_ret, callK_thr, decide_true, Bool.true_and, xNr, bI0, bIT, bIF, ne_eq, Classical.not_not, not_false_eq_true, false_or, List.length_nil, icM, ic_lt, ic_eq, le_nl, ↓reduceIte, Nat.lt_irrefl, ri_ws, ri_wn, ri_as, ri_an, upd_s, upd_n, rp_wi, rp_wa, rl_wi, rl_wa, rl_wp, rl_wpa, rl_wl, rp_wl, ri_wl, rp_wd, ri_wd, in_rng, Int32.lt_irrefl, Nat.not_lt_zero, pk_nc, Nat.reduceEqDiff, Nat.succ_ne_self, Nat.one_ne_zero, Nat.add_left_cancel_iff, ri_wpa, ri_wp, QModel_writeBarrow_0, QModel_writeBarrow_1, QModel_writeBarrow_2, QModel_writeBarrow_3, QModel_writeBarrow_4, ht6, h293, h, ic_add, w1, c116, w2, w3]
    · rw [if_neg h]
      generalize oM m s1 = M1 at *
      simp (disch := first | assumption | (show (_ : Nat) < _; omega) | (show (_ : Nat) ≠ _; omega) | (show (_ : Nat) ≤ _; omega) | exact Or.inl rfl | exact Or.inr rfl) only [hG0, hG1, hG2, hF0, hF1, hA0, hA1, xL, xC, icL, Option.bind_some, Nat.le_add_right, Nat.le_refl, if_true, if_false, and_self, true_and, and_true, or_false, false_or, or_true, true_or, and_false, false_and, not_true_eq_false, not_false_eq_true, Nat.reduceAdd, Nat.reduceLeDiff, Nat.reduceLT, Option.toList_some, Option.toList_none, List.cons_append, List.nil_append, callK_ret, callR_ret, callK_thr, decide_true, Bool.true_and, xNr, bI0, bIT, bIF, ne_eq, Classical.not_not, not_false_eq_true, false_or, List.length_nil, icM, ic_lt, ic_eq, le_nl, ↓reduceIte, Nat.lt_irrefl, ri_ws, ri_wn, ri_as, ri_an, upd_s, upd_n, rp_wi, rp_wa, rl_wi, rl_wa, rl_wp, rl_wpa, rl_wl, rp_wl, ri_wl, rp_wd, ri_wd, in_rng, Int32.lt_irrefl, Nat.not_lt_zero, pk_nc, Nat.reduceEqDiff, Nat.succ_ne_self, Nat.one_ne_zero, Nat.add_left_cancel_iff, ri_wpa, ri_wp, QModel_writeBarrow_0, QModel_writeBarrow_1, QModel_writeBarrow_2, QModel_writeBarrow_3, QModel_writeBarrow_4, ht6, h293, h, ic_add]
theorem mw_kinds {w : Nat} (hw : w < 3) {s : tx} (hs : s.1 ≤ 70) {P : Nat → Nat} (hP : ∀ i, i < 4 → ri m 293 (18 + 8 * w + (4 + i)) = ic (P i) ∧ P i < 100000) : ∀ t, t ≤ 4 → Rx (n0, S0) (d + 4) 221 122 [some (.ref (n0 + 292)), some (.int (ic w)), some (.int (ic 0))] [] (hp n0 G (oM m s), N, z) = Rx (n0, S0) (d + 4) 221 122 [some (.ref (n0 + 292)), some (.int (ic w)), some (.int (ic t))] [] (hp n0 G (oM m (kdF P s t)), N, z) := by
  have k292 : kd 292 = 18 := rfl
  have k293 : kd 293 = 19 := rfl
  intro t
  induction t with
  | zero => intro _; rfl
  | succ t ih =>
    intro ht
    have hle := kdF_le P s t
    have hS : kdF P s (t + 1) = if 0 < P t then wI (wC (wC (kdF P s t) 32) (97 + t)) (P t) else kdF P s t := rfl
    rw [hS]
    refine (ih (by omega)).trans ?_
    generalize kdF P s t = s1 at *
    have ht6 : t < 4 := by omega
    obtain ⟨p1, p2⟩ := hP t ht6
    have h293 : ri (oM m s1) 293 = ri m 293 := oM_o (by decide) (by decide)
    have g1 := fun d N z => m_w (n0 := n0) (S0 := S0) (G := G) (d := d) (N := N) (z := z) (m := oM m s1) (a := w) (o := 4 + t) (by omega)
    have g2 := fun d N z => m_w (n0 := n0) (S0 := S0) (G := G) (d := d) (N := N) (z := z) (m := oM m (wC (wC s1 32) (97 + t))) (a := w) (o := 4 + t) (by omega)
    rw [h293, p1] at g1
    rw [oM_o (by decide) (by decide), p1] at g2
    have dt := dgn_b (P t)
    have w1 := fun d N z => m_write (n0 := n0) (S0 := S0) (G := G) (m := m) (N := N) (z := z) (d := d) (s := s1) (x := 32) (by omega)
    have w2 := fun d N z => m_write (n0 := n0) (S0 := S0) (G := G) (m := m) (N := N) (z := z) (d := d) (s := wC s1 32) (x := 97 + t) (by show s1.1 + 1 < 100; omega)
    have w3 := fun d N z => m_writeNumber (n0 := n0) (S0 := S0) (G := G) (m := m) (N := N) (z := z) (d := d) (s := wC (wC s1 32) (97 + t)) (v := P t) p2 (by show s1.1 + 1 + 1 + dgn (P t) ≤ 100; omega)
    rw [HModel_writeBarrow_122]
    by_cases h : 0 < P t
    · have hz : ¬ P t = 0 := by omega
      rw [if_pos h]
      generalize oM m s1 = M1 at *
      generalize oM m (wC s1 32) = M2 at *
      generalize oM m (wC (wC s1 32) (97 + t)) = M3 at *
      simp (disch := first | assumption | (show (_ : Nat) < _; omega) | (show (_ : Nat) ≠ _; omega) | (show (_ : Nat) ≤ _; omega) | exact Or.inl rfl | exact Or.inr rfl) only [hG0, hG1, hG2, hF0, hF1, hA0, hA1, xL, xC, icL, Option.bind_some, Nat.le_add_right, Nat.le_refl, if_true, if_false, and_self, true_and, and_true, or_false, false_or, or_true, true_or, and_false, false_and, not_true_eq_false, not_false_eq_true, Nat.reduceAdd, Nat.reduceLeDiff, Nat.reduceLT, Option.toList_some, Option.toList_none, List.cons_append, List.nil_append, callK_ret, callR_ret, callK_thr, decide_true, Bool.true_and, xNr, bI0, bIT, bIF, ne_eq, Classical.not_not, not_false_eq_true, false_or, List.length_nil, icM, ic_lt, ic_eq, le_nl, ↓reduceIte, Nat.lt_irrefl, ri_ws, ri_wn, ri_as, ri_an, upd_s, upd_n, rp_wi, rp_wa, rl_wi, rl_wa, rl_wp, rl_wpa, rl_wl, rp_wl, ri_wl, rp_wd, ri_wd, in_rng, Int32.lt_irrefl, Nat.not_lt_zero, pk_nc, Nat.reduceEqDiff, Nat.succ_ne_self, Nat.one_ne_zero, Nat.add_left_cancel_iff, ri_wpa, ri_wp, QModel_writeBarrow_0, QModel_writeBarrow_1, QModel_writeBarrow_2, QModel_writeBarrow_3, QModel_writeBarrow_4, ht6, g1, hz, ic_add, w1, w2, g2, w3]
    · have hz : P t = 0 := by omega
      rw [if_neg h]
      generalize oM m s1 = M1 at *
      simp (disch := first | assumption | (show (_ : Nat) < _; omega) | (show (_ : Nat) ≠ _; omega) | (show (_ : Nat) ≤ _; omega) | exact Or.inl rfl | exact Or.inr rfl) only [hG0, hG1, hG2, hF0, hF1, hA0, hA1, xL, xC, icL, Option.bind_some, Nat.le_add_right, Nat.le_refl, if_true, if_false, and_self, true_and, and_true, or_false, false_or, or_true, true_or, and_false, false_and, not_true_eq_false, not_false_eq_true, Nat.reduceAdd, Nat.reduceLeDiff, Nat.reduceLT, Option.toList_some, Option.toList_none, List.cons_append, List.nil_append, callK_ret, callR_ret, callK_thr, decide_true, Bool.true_and, xNr, bI0, bIT, bIF, ne_eq, Classical.not_not, not_false_eq_true, false_or, List.length_nil, icM, ic_lt, ic_eq, le_nl, ↓reduceIte, Nat.lt_irrefl, ri_ws, ri_wn, ri_as, ri_an, upd_s, upd_n, rp_wi, rp_wa, rl_wi, rl_wa, rl_wp, rl_wpa, rl_wl, rp_wl, ri_wl, rp_wd, ri_wd, in_rng, Int32.lt_irrefl, Nat.not_lt_zero, pk_nc, Nat.reduceEqDiff, Nat.succ_ne_self, Nat.one_ne_zero, Nat.add_left_cancel_iff, ri_wpa, ri_wp, QModel_writeBarrow_0, QModel_writeBarrow_1, QModel_writeBarrow_2, QModel_writeBarrow_3, QModel_writeBarrow_4, ht6, g1, hz, ic_add]
end M15
