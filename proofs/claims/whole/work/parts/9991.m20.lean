/-! the reference's reader: numbers; expanded by wip/whole/px.py out of wip/whole/m20.src -/
abbrev dgP (v : Int32) : Prop := ¬ v < ic 48 ∧ ¬ ic 57 < v
/-- digits read: what they say, where they end -/
def nuF (t : Nat → Int32) (l : Nat) (b : Bool) : Nat → Nat → Int32 → Int32 × Nat
  | 0, p, v => (v, p)
  | f + 1, p, v => if dgP (mkF t l p b) then nuF t l b f (p + 1) (ic 10 * v + t p - ic 48) else (v, p)
/-- wrong, when no digit stands there -/
def nuB (t : Nat → Int32) (l p : Nat) (b : Bool) : Bool := b || !decide (dgP (mkF t l p b))
section M20
variable {n0 N z d : Nat} {S0 : Nat → Value} {G : sH} {m : mm}
theorem mk_dg {t : Nat → Int32} {l p : Nat} {b : Bool} (h : dgP (mkF t l p b)) : b = false ∧ p < l ∧ mkF t l p b = t p := by
  unfold mkF at h ⊢
  by_cases h1 : b = false ∧ p < l
  · exact ⟨h1.1, h1.2, if_pos h1⟩
  · rw [if_neg h1] at h
    exact absurd (show -ic 1 < ic 48 by decide) h.1
theorem m_nuLoop {l n : Nat} {b : Bool} (hl : ri m 292 19 = ic l) (h60 : l ≤ 60) (hn : n < 100) : ∀ f k p v, k + f = n → p ≤ l → ∀ N z, Rx (n0, S0) (d + 2) 236 32 [some (.ref (n0 + 292)), some (.int (ic n)), some (.int v), some (.int (ic k))] [] (hp n0 G (psR m p b), N, z) = oI n0 G (psR m (nuF (ri m 300) l b f p v).2 b) N z (nuF (ri m 300) l b f p v).1 := by
  have k292 : kd 292 = 18 := rfl
  have k300 : kd 300 = 22 := rfl
  intro f
  induction f with
  | zero =>
    intro k p v hk hp2 N z
    have h : ¬ k < n := by omega
    rw [HModel_number_32]
    simp (disch := first | assumption | (show (_ : Nat) < _; omega) | (show (_ : Nat) ≠ _; omega) | (show (_ : Nat) ≤ _; omega) | exact Or.inl rfl | exact Or.inr rfl) only [hG0, hG1, hG2, hF0, hF1, hA0, hA1, xL, xC, icL, Option.bind_some, Nat.le_add_right, Nat.le_refl, if_true, if_false, and_self, true_and, and_true, or_false, false_or, or_true, true_or, and_false, false_and, not_true_eq_false, not_false_eq_true, Nat.reduceAdd, Nat.reduceLeDiff, Nat.reduceLT, Option.toList_some, Option.toList_none, List.cons_append, List.nil_append, callK_ret, callR_ret, callK_thr, decide_true, Bool.true_and, xNr, bI0, bIT, bIF, ne_eq, Classical.not_not, not_false_eq_true, false_or, List.length_nil, icM, ic_lt, ic_eq, le_nl, ↓reduceIte, Nat.lt_irrefl, ri_ws, ri_wn, ri_as, ri_an, upd_s, upd_n, rp_wi, rp_wa, rl_wi, rl_wa, rl_wp, rl_wpa, rl_wl, rp_wl, ri_wl, rp_wd, ri_wd, in_rng, Int32.lt_irrefl, Nat.not_lt_zero, pk_nc, Nat.reduceEqDiff, Nat.succ_ne_self, Nat.one_ne_zero, Nat.add_left_cancel_iff, ri_wpa, ri_wp, QModel_number_0, QModel_number_1, h, nuF]
  | succ f ih =>
    intro k p v hk hp2 N z
    have h : k < n := by omega
    have hm := fun d => m_mark (n0 := n0) (S0 := S0) (G := G) (m := m) (d := d) (N := N) (z := z) (b := b) (p := p) hl h60 (by omega)
    have hin := fun (d : Nat) (σ : sS) => m_in (n0 := n0) (S0 := S0) (d := d) (σ := σ) (v := mkF (ri m 300) l p b) (lo := ic 48) (hi := ic 57)
    have g20 : ri (psR m p b) 292 20 = ic p := psR_20
    have g300 : ri (psR m p b) 300 = ri m 300 := psR_o (by decide)
    have w20 : wi (psR m p b) 292 20 (ic (p + 1)) = psR m (p + 1) b := psR_w20
    unfold nuF
    rw [HModel_number_32]
    by_cases hd : dgP (mkF (ri m 300) l p b)
    · obtain ⟨d1, d2, d3⟩ := mk_dg hd
      have hb1 : bI (¬ mkF (ri m 300) l p b < ic 48 ∧ ¬ ic 57 < mkF (ri m 300) l p b) = ic 1 := if_pos hd
      have hi := ih (k + 1) (p + 1) (ic 10 * v + ri m 300 p - ic 48) (by omega) (by omega) N z
      have hp60 : p < 60 := by omega
      rw [hb1] at hin
      rw [if_pos hd]
      generalize mkF (ri m 300) l p b = q at *
      generalize hM2 : psR m (p + 1) b = M2 at *
      generalize hM : psR m p b = M at *
      simp (disch := first | assumption | (show (_ : Nat) < _; omega) | (show (_ : Nat) ≠ _; omega) | (show (_ : Nat) ≤ _; omega) | exact Or.inl rfl | exact Or.inr rfl) only [hG0, hG1, hG2, hF0, hF1, hA0, hA1, xL, xC, icL, Option.bind_some, Nat.le_add_right, Nat.le_refl, if_true, if_false, and_self, true_and, and_true, or_false, false_or, or_true, true_or, and_false, false_and, not_true_eq_false, not_false_eq_true, Nat.reduceAdd, Nat.reduceLeDiff, Nat.reduceLT, Option.toList_some, Option.toList_none, List.cons_append, List.nil_append, callK_ret, callR_ret, callK_thr, decide_true, Bool.true_and, xNr, bI0, bIT, bIF, ne_eq, Classical.not_not, not_false_eq_true, false_or, List.length_nil, icM, ic_lt, ic_eq, le_nl, ↓reduceIte, Nat.lt_irrefl, ri_ws, ri_wn, ri_as, ri_an, upd_s, upd_n, rp_wi, rp_wa, rl_wi, rl_wa, rl_wp, rl_wpa, rl_wl, rp_wl, ri_wl, rp_wd, ri_wd, in_rng, Int32.lt_irrefl, Nat.not_lt_zero, pk_nc, Nat.reduceEqDiff, Nat.succ_ne_self, Nat.one_ne_zero, Nat.add_left_cancel_iff, ri_wpa, ri_wp, QModel_number_0, QModel_number_1, h, hm, hin, g20, g300, hp60, w20, ic_add, hi]
    · have hb1 : bI (¬ mkF (ri m 300) l p b < ic 48 ∧ ¬ ic 57 < mkF (ri m 300) l p b) = ic 0 := if_neg hd
      rw [hb1] at hin
      rw [if_neg hd]
      generalize mkF (ri m 300) l p b = q at *
      generalize hM : psR m p b = M at *
      simp (disch := first | assumption | (show (_ : Nat) < _; omega) | (show (_ : Nat) ≠ _; omega) | (show (_ : Nat) ≤ _; omega) | exact Or.inl rfl | exact Or.inr rfl) only [hG0, hG1, hG2, hF0, hF1, hA0, hA1, xL, xC, icL, Option.bind_some, Nat.le_add_right, Nat.le_refl, if_true, if_false, and_self, true_and, and_true, or_false, false_or, or_true, true_or, and_false, false_and, not_true_eq_false, not_false_eq_true, Nat.reduceAdd, Nat.reduceLeDiff, Nat.reduceLT, Option.toList_some, Option.toList_none, List.cons_append, List.nil_append, callK_ret, callR_ret, callK_thr, decide_true, Bool.true_and, xNr, bI0, bIT, bIF, ne_eq, Classical.not_not, not_false_eq_true, false_or, List.length_nil, icM, ic_lt, ic_eq, le_nl, ↓reduceIte, Nat.lt_irrefl, ri_ws, ri_wn, ri_as, ri_an, upd_s, upd_n, rp_wi, rp_wa, rl_wi, rl_wa, rl_wp, rl_wpa, rl_wl, rp_wl, ri_wl, rp_wd, ri_wd, in_rng, Int32.lt_irrefl, Nat.not_lt_zero, pk_nc, Nat.reduceEqDiff, Nat.succ_ne_self, Nat.one_ne_zero, Nat.add_left_cancel_iff, ri_wpa, ri_wp, QModel_number_0, QModel_number_1, h, hm, hin]
theorem m_number {l p n : Nat} {b : Bool} (hl : ri m 292 19 = ic l) (h60 : l ≤ 60) (hpl : p ≤ l) (hn : n < 100) : Mt (n0, S0) (d + 3) 236 [.ref (n0 + 292), .int (ic n)] (hp n0 G (psR m p b), N, z) = oI n0 G (psR m (nuF (ri m 300) l (nuB (ri m 300) l p b) n p (ic 0)).2 (nuB (ri m 300) l p b)) N z (nuF (ri m 300) l (nuB (ri m 300) l p b) n p (ic 0)).1 := by
  have k292 : kd 292 = 18 := rfl
  have hm := fun d => m_mark (n0 := n0) (S0 := S0) (G := G) (m := m) (d := d) (N := N) (z := z) (b := b) (p := p) hl h60 (by omega)
  have hin := fun (d : Nat) (σ : sS) => m_in (n0 := n0) (S0 := S0) (d := d) (σ := σ) (v := mkF (ri m 300) l p b) (lo := ic 48) (hi := ic 57)
  have g22 : ri (psR m p b) 292 22 = bw b := psR_22
  have w1 : wi (psR m p b) 292 22 (ic 1) = psR m p true := psR_w22 (c := true)
  have w0 : wi (psR m p b) 292 22 (ic 0) = psR m p false := psR_w22 (c := false)
  have hlp := fun b => m_nuLoop (n0 := n0) (S0 := S0) (G := G) (m := m) (d := d) (b := b) hl h60 hn n 0 p (ic 0) (by omega) hpl N z
  unfold nuB
  rw [NModel_number]
  by_cases hd : dgP (mkF (ri m 300) l p b)
  · obtain ⟨d1, d2, d3⟩ := mk_dg hd
    have hb1 : bI (¬ mkF (ri m 300) l p b < ic 48 ∧ ¬ ic 57 < mkF (ri m 300) l p b) = ic 1 := if_pos hd
    rw [hb1] at hin
    rw [decide_eq_true hd]
    subst d1
    have e : bw false = ic 0 := rfl
    rw [e] at g22
    have hlp0 := hlp false
    clear hlp
    simp only [Bool.not_true, Bool.or_false]
    generalize nuF (ri m 300) l false n p (ic 0) = R at *
    generalize mkF (ri m 300) l p false = q at *
    generalize hM : psR m p false = M at *
    simp (disch := first | assumption | (show (_ : Nat) < _; omega) | (show (_ : Nat) ≠ _; omega) | (show (_ : Nat) ≤ _; omega) | exact Or.inl rfl | exact Or.inr rfl) only [hG0, hG1, hG2, hF0, hF1, hA0, hA1, xL, xC, icL, Option.bind_some, Nat.le_add_right, Nat.le_refl, if_true, if_false, and_self, true_and, and_true, or_false, false_or, or_true, true_or, and_false, false_and, not_true_eq_false, not_false_eq_true, Nat.reduceAdd, Nat.reduceLeDiff, Nat.reduceLT, Option.toList_some, Option.toList_none, List.cons_append, List.nil_append, callK_ret, callR_ret, callK_thr, decide_true, Bool.true_and, xNr, bI0, bIT, bIF, ne_eq, Classical.not_not, not_false_eq_true, false_or, List.length_nil, icM, ic_lt, ic_eq, le_nl, ↓reduceIte, Nat.lt_irrefl, ri_ws, ri_wn, ri_as, ri_an, upd_s, upd_n, rp_wi, rp_wa, rl_wi, rl_wa, rl_wp, rl_wpa, rl_wl, rp_wl, ri_wl, rp_wd, ri_wd, in_rng, Int32.lt_irrefl, Nat.not_lt_zero, pk_nc, Nat.reduceEqDiff, Nat.succ_ne_self, Nat.one_ne_zero, Nat.add_left_cancel_iff, ri_wpa, ri_wp, QModel_number_0, QModel_number_1, g22, hm, hin, or4, w0, hlp0]
  · have hb1 : bI (¬ mkF (ri m 300) l p b < ic 48 ∧ ¬ ic 57 < mkF (ri m 300) l p b) = ic 0 := if_neg hd
    rw [hb1] at hin
    rw [decide_eq_false hd]
    simp only [Bool.not_false, Bool.or_true]
    have hlp0 := hlp true
    clear hlp
    generalize nuF (ri m 300) l true n p (ic 0) = R at *
    generalize mkF (ri m 300) l p b = q at *
    generalize hM1 : psR m p true = M1 at *
    cases b with
    | true =>
      have e : bw true = ic 1 := rfl
      rw [e] at g22
      rw [hM1] at *
      simp (disch := first | assumption | (show (_ : Nat) < _; omega) | (show (_ : Nat) ≠ _; omega) | (show (_ : Nat) ≤ _; omega) | exact Or.inl rfl | exact Or.inr rfl) only [hG0, hG1, hG2, hF0, hF1, hA0, hA1, xL, xC, icL, Option.bind_some, Nat.le_add_right, Nat.le_refl, if_true, if_false, and_self, true_and, and_true, or_false, false_or, or_true, true_or, and_false, false_and, not_true_eq_false, not_false_eq_true, Nat.reduceAdd, Nat.reduceLeDiff, Nat.reduceLT, Option.toList_some, Option.toList_none, List.cons_append, List.nil_append, callK_ret, callR_ret, callK_thr, decide_true, Bool.true_and, xNr, bI0, bIT, bIF, ne_eq, Classical.not_not, not_false_eq_true, false_or, List.length_nil, icM, ic_lt, ic_eq, le_nl, ↓reduceIte, Nat.lt_irrefl, ri_ws, ri_wn, ri_as, ri_an, upd_s, upd_n, rp_wi, rp_wa, rl_wi, rl_wa, rl_wp, rl_wpa, rl_wl, rp_wl, ri_wl, rp_wd, ri_wd, in_rng, Int32.lt_irrefl, Nat.not_lt_zero, pk_nc, Nat.reduceEqDiff, Nat.succ_ne_self, Nat.one_ne_zero, Nat.add_left_cancel_iff, ri_wpa, ri_wp, QModel_number_0, QModel_number_1, g22, hm, hin, or4, w1, hlp0]
    | false =>
      have e : bw false = ic 0 := rfl
      rw [e] at g22
      generalize hM : psR m p false = M at *
      simp (disch := first | assumption | (show (_ : Nat) < _; omega) | (show (_ : Nat) ≠ _; omega) | (show (_ : Nat) ≤ _; omega) | exact Or.inl rfl | exact Or.inr rfl) only [hG0, hG1, hG2, hF0, hF1, hA0, hA1, xL, xC, icL, Option.bind_some, Nat.le_add_right, Nat.le_refl, if_true, if_false, and_self, true_and, and_true, or_false, false_or, or_true, true_or, and_false, false_and, not_true_eq_false, not_false_eq_true, Nat.reduceAdd, Nat.reduceLeDiff, Nat.reduceLT, Option.toList_some, Option.toList_none, List.cons_append, List.nil_append, callK_ret, callR_ret, callK_thr, decide_true, Bool.true_and, xNr, bI0, bIT, bIF, ne_eq, Classical.not_not, not_false_eq_true, false_or, List.length_nil, icM, ic_lt, ic_eq, le_nl, ↓reduceIte, Nat.lt_irrefl, ri_ws, ri_wn, ri_as, ri_an, upd_s, upd_n, rp_wi, rp_wa, rl_wi, rl_wa, rl_wp, rl_wpa, rl_wl, rp_wl, ri_wl, rp_wd, ri_wd, in_rng, Int32.lt_irrefl, Nat.not_lt_zero, pk_nc, Nat.reduceEqDiff, Nat.succ_ne_self, Nat.one_ne_zero, Nat.add_left_cancel_iff, ri_wpa, ri_wp, QModel_number_0, QModel_number_1, g22, hm, hin, or4, w1, hlp0]
end M20
