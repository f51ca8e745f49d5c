/-! the reference's plans; expanded by wip/whole/px.py out of wip/whole/m10.src -/
/-- the walk over an order: x, y, clock, lateness -/
def mlF (J : Nat → Nat → Int32) (x y c : Int32) : Nat → Int32 × Int32 × Int32 × Int32
  | 0 => (x, y, c, ic 0)
  | i + 1 => (J i 1, J i 2, (mlF J x y c i).2.2.1 + (apF (mlF J x y c i).1 (J i 1) + apF (mlF J x y c i).2.1 (J i 2) + J i 5), (mlF J x y c i).2.2.2 + (if J i 6 < (mlF J x y c i).2.2.1 + (apF (mlF J x y c i).1 (J i 1) + apF (mlF J x y c i).2.1 (J i 2) + J i 5) then (mlF J x y c i).2.2.1 + (apF (mlF J x y c i).1 (J i 1) + apF (mlF J x y c i).2.1 (J i 2) + J i 5) - J i 6 else ic 0))
/-- job i of the row -/
def rwJ (r : Nat → Int32) (i o : Nat) : Int32 := r (42 + 8 * i + o)
def mlate (r : Nat → Int32) (w cnt : Nat) (u : Nat → Nat) : Int32 := (mlF (fun i => rwJ r (u i)) (r (18 + 8 * w + 0)) (r (18 + 8 * w + 1)) (r (18 + 8 * w + 2)) cnt).2.2.2
section M10
variable {n0 N z d : Nat} {S0 : Nat → Value} {G : sH} {m : mm}
theorem m_lateness {w cnt : Nat} {u : Nat → Nat} (hw : w < 3) (h8 : ri m 292 10 = ic cnt) (h6 : cnt ≤ 6) (hk : ∀ i, i < cnt → u i < 12) : Mt (n0, S0) (d + 2) 206 [.ref (n0 + 292), .int (ic w)] (hp n0 G (vM m u), N, z) = oI n0 G (vM m u) N z (mlate (ri m 293) w cnt u) := by
  have k292 : kd 292 = 18 := rfl
  have k293 : kd 293 = 19 := rfl
  have k297 : kd 297 = 5 := rfl
  have w0 := fun d N z => m_w (n0 := n0) (S0 := S0) (G := G) (d := d) (N := N) (z := z) (m := vM m u) (a := w) (o := 0) (by omega)
  have w1 := fun d N z => m_w (n0 := n0) (S0 := S0) (G := G) (d := d) (N := N) (z := z) (m := vM m u) (a := w) (o := 1) (by omega)
  have w2 := fun d N z => m_w (n0 := n0) (S0 := S0) (G := G) (d := d) (N := N) (z := z) (m := vM m u) (a := w) (o := 2) (by omega)
  have hr : ri (vM m u) 293 = ri m 293 := ri_an _ _ (by decide)
  rw [hr] at w0 w1 w2
  rw [NModel_lateness]
  simp (disch := first | assumption | (show (_ : Nat) < _; omega) | (show (_ : Nat) ≠ _; omega) | (show (_ : Nat) ≤ _; omega) | exact Or.inl rfl | exact Or.inr rfl) only [hG0, hG1, hG2, hF0, hF1, hA0, hA1, xL, xC, icL, Option.bind_some, Nat.le_add_right, Nat.le_refl, if_true, if_false, and_self, true_and, and_true, or_false, false_or, or_true, true_or, and_false, false_and, not_true_eq_false, not_false_eq_true, Nat.reduceAdd, Nat.reduceLeDiff, Nat.reduceLT, Option.toList_some, Option.toList_none, List.cons_append, List.nil_append, callK_ret, callR_ret, callK_thr, decide_true, Bool.true_and, xNr, bI0, bIT, bIF, ne_eq, Classical.not_not, not_false_eq_true, false_or, List.length_nil, icM, ic_lt, ic_eq, le_nl, ↓reduceIte, Nat.lt_irrefl, ri_ws, ri_wn, ri_as, ri_an, upd_s, upd_n, rp_wi, rp_wa, rl_wi, rl_wa, rl_wp, rl_wpa, rl_wl, rp_wl, ri_wl, rp_wd, ri_wd, in_rng, Int32.lt_irrefl, Nat.not_lt_zero, pk_nc, Nat.reduceEqDiff, Nat.succ_ne_self, Nat.one_ne_zero, Nat.add_left_cancel_iff, ri_wpa, ri_wp, QModel_lateness_0, QModel_lateness_1, QModel_lateness_2, QModel_lateness_3, w0, w1, w2]
  unfold mlate
  generalize ri m 293 (18 + 8 * w + 0) = x
  generalize ri m 293 (18 + 8 * w + 1) = y
  generalize ri m 293 (18 + 8 * w + 2) = c
  have step : ∀ i, i < cnt → ∀ l : Option Value, ∃ l' : Option Value, Rx (n0, S0) (d + 1) 206 28 [some (.ref (n0 + 292)), some (.int (ic w)), some (.int ((mlF (fun i => rwJ (ri m 293) (u i)) x y c i).2.2.1)), some (.int ((mlF (fun i => rwJ (ri m 293) (u i)) x y c i).1)), some (.int ((mlF (fun i => rwJ (ri m 293) (u i)) x y c i).2.1)), some (.int ((mlF (fun i => rwJ (ri m 293) (u i)) x y c i).2.2.2)), some (.int (ic i)), l] [] (hp n0 G (vM m u), N, z) = Rx (n0, S0) (d + 1) 206 28 [some (.ref (n0 + 292)), some (.int (ic w)), some (.int ((mlF (fun i => rwJ (ri m 293) (u i)) x y c (i + 1)).2.2.1)), some (.int ((mlF (fun i => rwJ (ri m 293) (u i)) x y c (i + 1)).1)), some (.int ((mlF (fun i => rwJ (ri m 293) (u i)) x y c (i + 1)).2.1)), some (.int ((mlF (fun i => rwJ (ri m 293) (u i)) x y c (i + 1)).2.2.2)), some (.int (ic (i + 1))), l'] [] (hp n0 G (vM m u), N, z) := by
    intro i hi l
    refine ⟨some (.int (ic (u i))), ?_⟩
    have hu := hk i hi
    have j1 := fun d N z => m_j (n0 := n0) (S0 := S0) (G := G) (d := d) (N := N) (z := z) (m := vM m u) (a := u i) (o := 1) (by omega)
    have j2 := fun d N z => m_j (n0 := n0) (S0 := S0) (G := G) (d := d) (N := N) (z := z) (m := vM m u) (a := u i) (o := 2) (by omega)
    have j5 := fun d N z => m_j (n0 := n0) (S0 := S0) (G := G) (d := d) (N := N) (z := z) (m := vM m u) (a := u i) (o := 5) (by omega)
    have j6 := fun d N z => m_j (n0 := n0) (S0 := S0) (G := G) (d := d) (N := N) (z := z) (m := vM m u) (a := u i) (o := 6) (by omega)
    rw [hr] at j1 j2 j5 j6
    rw [mlF]
    generalize mlF (fun i => rwJ (ri m 293) (u i)) x y c i = t
    obtain ⟨x1, y1, c1, l1⟩ := t
    dsimp only
    unfold rwJ
    rw [HModel_lateness_28]
    generalize ri m 293 (42 + 8 * u i + 1) = a1 at *
    generalize ri m 293 (42 + 8 * u i + 2) = a2 at *
    generalize ri m 293 (42 + 8 * u i + 5) = a5 at *
    generalize ri m 293 (42 + 8 * u i + 6) = a6 at *
    by_cases hl : a6 < c1 + (apF x1 a1 + apF y1 a2 + a5)
    · rw [if_pos hl]
      simp (disch := first | assumption | (show (_ : Nat) < _; omega) | (show (_ : Nat) ≠ _; omega) | (show (_ : Nat) ≤ _; omega) | exact Or.inl rfl | exact Or.inr rfl) only [hG0, hG1, hG2, hF0, hF1, hA0, hA1, xL, xC, icL, Option.bind_some, Nat.le_add_right, Nat.le_refl, if_true, if_false, and_self, true_and, and_true, or_false, false_or, or_true, true_or, and_false, false_and, not_true_eq_false, not_false_eq_true, Nat.reduceAdd, Nat.reduceLeDiff, Nat.reduceLT, Option.toList_some, Option.toList_none, List.cons_append, List.nil_append, callK_ret, callR_ret, callK_thr, decide_true, Bool.true_and, xNr, bI0, bIT, bIF, ne_eq, Classical.not_not, not_false_eq_true, false_or, List.length_nil, icM, ic_lt, ic_eq, le_nl, ↓reduceIte, Nat.lt_irrefl, ri_ws, ri_wn, ri_as, ri_an, upd_s, upd_n, rp_wi, rp_wa, rl_wi, rl_wa, rl_wp, rl_wpa, rl_wl, rp_wl, ri_wl, rp_wd, ri_wd, in_rng, Int32.lt_irrefl, Nat.not_lt_zero, pk_nc, Nat.reduceEqDiff, Nat.succ_ne_self, Nat.one_ne_zero, Nat.add_left_cancel_iff, ri_wpa, ri_wp, QModel_lateness_0, QModel_lateness_1, QModel_lateness_2, QModel_lateness_3, h8, hi, j1, j2, j5, j6, m_apart, hl, ic_add]
    · rw [if_neg hl]
      simp (disch := first | assumption | (show (_ : Nat) < _; omega) | (show (_ : Nat) ≠ _; omega) | (show (_ : Nat) ≤ _; omega) | exact Or.inl rfl | exact Or.inr rfl) only [hG0, hG1, hG2, hF0, hF1, hA0, hA1, xL, xC, icL, Option.bind_some, Nat.le_add_right, Nat.le_refl, if_true, if_false, and_self, true_and, and_true, or_false, false_or, or_true, true_or, and_false, false_and, not_true_eq_false, not_false_eq_true, Nat.reduceAdd, Nat.reduceLeDiff, Nat.reduceLT, Option.toList_some, Option.toList_none, List.cons_append, List.nil_append, callK_ret, callR_ret, callK_thr, decide_true, Bool.true_and, xNr, bI0, bIT, bIF, ne_eq, Classical.not_not, not_false_eq_true, false_or, List.length_nil, icM, ic_lt, ic_eq, le_nl, ↓reduceIte, Nat.lt_irrefl, ri_ws, ri_wn, ri_as, ri_an, upd_s, upd_n, rp_wi, rp_wa, rl_wi, rl_wa, rl_wp, rl_wpa, rl_wl, rp_wl, ri_wl, rp_wd, ri_wd, in_rng, Int32.lt_irrefl, Nat.not_lt_zero, pk_nc, Nat.reduceEqDiff, Nat.succ_ne_self, Nat.one_ne_zero, Nat.add_left_cancel_iff, ri_wpa, ri_wp, QModel_lateness_0, QModel_lateness_1, QModel_lateness_2, QModel_lateness_3, h8, hi, j1, j2, j5, j6, m_apart, hl, ic_add]
  obtain ⟨l, hl⟩ := iterE (fun i (l : Option Value) => Rx (n0, S0) (d + 1) 206 28 [some (.ref (n0 + 292)), some (.int (ic w)), some (.int ((mlF (fun i => rwJ (ri m 293) (u i)) x y c i).2.2.1)), some (.int ((mlF (fun i => rwJ (ri m 293) (u i)) x y c i).1)), some (.int ((mlF (fun i => rwJ (ri m 293) (u i)) x y c i).2.1)), some (.int ((mlF (fun i => rwJ (ri m 293) (u i)) x y c i).2.2.2)), some (.int (ic i)), l] [] (hp n0 G (vM m u), N, z)) cnt step none
  refine hl.trans ?_
  show Rx _ _ _ _ _ _ _ = _
  rw [HModel_lateness_28]
  simp (disch := first | assumption | (show (_ : Nat) < _; omega) | (show (_ : Nat) ≠ _; omega) | (show (_ : Nat) ≤ _; omega) | exact Or.inl rfl | exact Or.inr rfl) only [hG0, hG1, hG2, hF0, hF1, hA0, hA1, xL, xC, icL, Option.bind_some, Nat.le_add_right, Nat.le_refl, if_true, if_false, and_self, true_and, and_true, or_false, false_or, or_true, true_or, and_false, false_and, not_true_eq_false, not_false_eq_true, Nat.reduceAdd, Nat.reduceLeDiff, Nat.reduceLT, Option.toList_some, Option.toList_none, List.cons_append, List.nil_append, callK_ret, callR_ret, callK_thr, decide_true, Bool.true_and, xNr, bI0, bIT, bIF, ne_eq, Classical.not_not, not_false_eq_true, false_or, List.length_nil, icM, ic_lt, ic_eq, le_nl, ↓reduceIte, Nat.lt_irrefl, ri_ws, ri_wn, ri_as, ri_an, upd_s, upd_n, rp_wi, rp_wa, rl_wi, rl_wa, rl_wp, rl_wpa, rl_wl, rp_wl, ri_wl, rp_wd, ri_wd, in_rng, Int32.lt_irrefl, Nat.not_lt_zero, pk_nc, Nat.reduceEqDiff, Nat.succ_ne_self, Nat.one_ne_zero, Nat.add_left_cancel_iff, ri_wpa, ri_wp, QModel_lateness_0, QModel_lateness_1, QModel_lateness_2, QModel_lateness_3, h8]
theorem m_keeps {cnt : Nat} (h8 : ri m 292 10 = ic cnt) (h6 : cnt ≤ 6) {u : Nat → Nat} {late : Int32} (hu : ri m 297 = fun i => ic (u i)) : Mt (n0, S0) (d + 1) 207 [.ref (n0 + 292), .int late] (hp n0 G m, N, z) = some (.inl none, (hp n0 G (wa (wi m 292 11 late) 298 (cpf cnt (fun i => ic (u i)) (ri m 298))), N, z)) := by
  have k292 : kd 292 = 18 := rfl
  have k297 : kd 297 = 5 := rfl
  have k298 : kd 298 = 5 := rfl
  have c0 : cpf 0 (fun i => ic (u i)) (ri m 298) = ri m 298 := by
    funext q
    unfold cpf
    rw [if_neg (Nat.not_lt_zero q)]
  have hm : wi m 292 11 late = wa (wi m 292 11 late) 298 (cpf 0 (fun i => ic (u i)) (ri m 298)) := by
    rw [c0, ← ri_wn m 11 late (show (298 : Nat) ≠ 292 by decide), wa_self]
  rw [NModel_keeps]
  simp (disch := first | assumption | (show (_ : Nat) < _; omega) | (show (_ : Nat) ≠ _; omega) | (show (_ : Nat) ≤ _; omega) | exact Or.inl rfl | exact Or.inr rfl) only [hG0, hG1, hG2, hF0, hF1, hA0, hA1, xL, xC, icL, Option.bind_some, Nat.le_add_right, Nat.le_refl, if_true, if_false, and_self, true_and, and_true, or_false, false_or, or_true, true_or, and_false, false_and, not_true_eq_false, not_false_eq_true, Nat.reduceAdd, Nat.reduceLeDiff, Nat.reduceLT, Option.toList_some, Option.toList_none, List.cons_append, List.nil_append, callK_ret, callR_ret, callK_thr, decide_true, Bool.true_and, xNr, bI0, bIT, bIF, ne_eq, Classical.not_not, not_false_eq_true, false_or, List.length_nil, icM, ic_lt, ic_eq, le_nl, ↓reduceIte, Nat.lt_irrefl, ri_ws, ri_wn, ri_as, ri_an, upd_s, upd_n, rp_wi, rp_wa, rl_wi, rl_wa, rl_wp, rl_wpa, rl_wl, rp_wl, ri_wl, rp_wd, ri_wd, in_rng, Int32.lt_irrefl, Nat.not_lt_zero, pk_nc, Nat.reduceEqDiff, Nat.succ_ne_self, Nat.one_ne_zero, Nat.add_left_cancel_iff, ri_wpa, ri_wp, QModel_keeps_0]
  have step : ∀ i, i < cnt → Rx (n0, S0) d 207 7 [some (.ref (n0 + 292)), some (.int late), some (.int (ic i))] [] (hp n0 G (wa (wi m 292 11 late) 298 (cpf i (fun i => ic (u i)) (ri m 298))), N, z) = Rx (n0, S0) d 207 7 [some (.ref (n0 + 292)), some (.int late), some (.int (ic (i + 1)))] [] (hp n0 G (wa (wi m 292 11 late) 298 (cpf (i + 1) (fun i => ic (u i)) (ri m 298))), N, z) := by
    intro i hi
    have e : upd (cpf i (fun i => ic (u i)) (ri m 298)) i (ic (u i)) = cpf (i + 1) (fun i => ic (u i)) (ri m 298) := by
      funext q
      unfold upd cpf
      by_cases hq : q = i
      · subst hq
        rw [if_pos rfl, if_pos (by omega)]
      · rw [if_neg hq]
        by_cases h2 : q < i
        · rw [if_pos h2, if_pos (by omega)]
        · rw [if_neg h2, if_neg (by omega)]
    rw [HModel_keeps_7]
    simp (disch := first | assumption | (show (_ : Nat) < _; omega) | (show (_ : Nat) ≠ _; omega) | (show (_ : Nat) ≤ _; omega) | exact Or.inl rfl | exact Or.inr rfl) only [hG0, hG1, hG2, hF0, hF1, hA0, hA1, xL, xC, icL, Option.bind_some, Nat.le_add_right, Nat.le_refl, if_true, if_false, and_self, true_and, and_true, or_false, false_or, or_true, true_or, and_false, false_and, not_true_eq_false, not_false_eq_true, Nat.reduceAdd, Nat.reduceLeDiff, Nat.reduceLT, Option.toList_some, Option.toList_none, List.cons_append, List.nil_append, callK_ret, callR_ret, callK_thr, decide_true, Bool.true_and, xNr, bI0, bIT, bIF, ne_eq, Classical.not_not, not_false_eq_true, false_or, List.length_nil, icM, ic_lt, ic_eq, le_nl, ↓reduceIte, Nat.lt_irrefl, ri_ws, ri_wn, ri_as, ri_an, upd_s, upd_n, rp_wi, rp_wa, rl_wi, rl_wa, rl_wp, rl_wpa, rl_wl, rp_wl, ri_wl, rp_wd, ri_wd, in_rng, Int32.lt_irrefl, Nat.not_lt_zero, pk_nc, Nat.reduceEqDiff, Nat.succ_ne_self, Nat.one_ne_zero, Nat.add_left_cancel_iff, ri_wpa, ri_wp, QModel_keeps_0, h8, hi, hu, wi_wa, e, ic_add]
  rw [hm]
  refine (iter (fun i => Rx (n0, S0) d 207 7 [some (.ref (n0 + 292)), some (.int late), some (.int (ic i))] [] (hp n0 G (wa (wi m 292 11 late) 298 (cpf i (fun i => ic (u i)) (ri m 298))), N, z)) cnt step).trans ?_
  rw [HModel_keeps_7]
  simp (disch := first | assumption | (show (_ : Nat) < _; omega) | (show (_ : Nat) ≠ _; omega) | (show (_ : Nat) ≤ _; omega) | exact Or.inl rfl | exact Or.inr rfl) only [hG0, hG1, hG2, hF0, hF1, hA0, hA1, xL, xC, icL, Option.bind_some, Nat.le_add_right, Nat.le_refl, if_true, if_false, and_self, true_and, and_true, or_false, false_or, or_true, true_or, and_false, false_and, not_true_eq_false, not_false_eq_true, Nat.reduceAdd, Nat.reduceLeDiff, Nat.reduceLT, Option.toList_some, Option.toList_none, List.cons_append, List.nil_append, callK_ret, callR_ret, callK_thr, decide_true, Bool.true_and, xNr, bI0, bIT, bIF, ne_eq, Classical.not_not, not_false_eq_true, false_or, List.length_nil, icM, ic_lt, ic_eq, le_nl, ↓reduceIte, Nat.lt_irrefl, ri_ws, ri_wn, ri_as, ri_an, upd_s, upd_n, rp_wi, rp_wa, rl_wi, rl_wa, rl_wp, rl_wpa, rl_wl, rp_wl, ri_wl, rp_wd, ri_wd, in_rng, Int32.lt_irrefl, Nat.not_lt_zero, pk_nc, Nat.reduceEqDiff, Nat.succ_ne_self, Nat.one_ne_zero, Nat.add_left_cancel_iff, ri_wpa, ri_wp, QModel_keeps_0, h8, wa_wa]
end M10
