/-! the reference's reader: marks, signs, kinds, numbers; expanded by wip/whole/px.py out of wip/whole/m19.src -/
def bw (b : Bool) : Int32 := if b then ic 1 else ic 0
/-- the reader at place p, wrong or not -/
def psR (m : mm) (p : Nat) (b : Bool) : mm := wi (wi m 292 20 (ic p)) 292 22 (bw b)
theorem or4 : (ic 0 ||| ic 0 = ic 0) ∧ (ic 0 ||| ic 1 = ic 1) ∧ (ic 1 ||| ic 0 = ic 1) ∧ (ic 1 ||| ic 1 = ic 1) := ⟨by decide, by decide, by decide, by decide⟩
/-- what stands at the place; -1: nothing, or wrong -/
def mkF (t : Nat → Int32) (l p : Nat) (b : Bool) : Int32 := if b = false ∧ p < l then t p else -ic 1
section M19
variable {n0 N z d : Nat} {S0 : Nat → Value} {G : sH} {m : mm}
theorem psR_20 {p : Nat} {b : Bool} : ri (psR m p b) 292 20 = ic p := by
  unfold psR
  rw [ri_ws, upd_n _ _ (by decide), ri_ws, upd_s]
theorem psR_22 {p : Nat} {b : Bool} : ri (psR m p b) 292 22 = bw b := by
  unfold psR
  rw [ri_ws, upd_s]
theorem psR_f {p : Nat} {b : Bool} {i : Nat} (h1 : i ≠ 20) (h2 : i ≠ 22) : ri (psR m p b) 292 i = ri m 292 i := by
  unfold psR
  rw [ri_ws, upd_n _ _ h2, ri_ws, upd_n _ _ h1]
theorem psR_o {p k : Nat} {b : Bool} (h : k ≠ 292) : ri (psR m p b) k = ri m k := by
  unfold psR
  rw [ri_wn _ _ _ h, ri_wn _ _ _ h]
theorem psR_w20 {p q : Nat} {b : Bool} : wi (psR m p b) 292 20 (ic q) = psR m q b := by
  refine mm_ext (fun k => ?_) rfl rfl rfl
  unfold psR wi
  simp only [ri_wa]
  by_cases h3 : k = 292
  · subst h3
    simp
    funext j
    unfold upd
    by_cases h4 : j = 20 <;> by_cases h5 : j = 22 <;> simp [h4, h5]
  · simp [h3]
theorem psR_w22 {p : Nat} {b c : Bool} : wi (psR m p b) 292 22 (bw c) = psR m p c := by
  unfold psR
  refine mm_ext (fun k => ?_) rfl rfl rfl
  unfold wi
  simp only [ri_wa]
  by_cases h3 : k = 292
  · subst h3
    simp
    funext j
    unfold upd
    by_cases h4 : j = 22 <;> simp [h4]
  · simp [h3]
theorem m_mark {l p : Nat} {b : Bool} (hl : ri m 292 19 = ic l) (h60 : l ≤ 60) (hp6 : p ≤ 60) : Mt (n0, S0) (d + 1) 234 [.ref (n0 + 292)] (hp n0 G (psR m p b), N, z) = oI n0 G (psR m p b) N z (mkF (ri m 300) l p b) := by
  have k292 : kd 292 = 18 := rfl
  have k300 : kd 300 = 22 := rfl
  have g19 : ri (psR m p b) 292 19 = ic l := (psR_f (by decide) (by decide)).trans hl
  have g20 : ri (psR m p b) 292 20 = ic p := psR_20
  have g22 : ri (psR m p b) 292 22 = bw b := psR_22
  have g300 : ri (psR m p b) 300 = ri m 300 := psR_o (by decide)
  unfold mkF
  rw [NModel_mark]
  generalize psR m p b = M at *
  cases b with
  | true =>
    have e : bw true = ic 1 := rfl
    rw [e] at g22
    rw [if_neg (fun z => by cases z.1)]
    simp (disch := first | assumption | (show (_ : Nat) < _; omega) | (show (_ : Nat) ≠ _; omega) | (show (_ : Nat) ≤ _; omega) | exact Or.inl rfl | exact Or.inr rfl) only [hG0, hG1, hG2, hF0, hF1, hA0, hA1, xL, xC, icL, Option.bind_some, Nat.le_add_right, Nat.le_refl, if_true, if_false, and_self, true_and, and_true, or_false, false_or, or_true, true_or, and_false, false_and, not_true_eq_false, not_false_eq_true, Nat.reduceAdd, Nat.reduceLeDiff, Nat.reduceLT, Option.toList_some, Option.toList_none, List.cons_append, List.nil_append, callK_ret, callR_ret, callK_thr, decide_true, Bool.true_and, xNr, bI0, bIT, bIF, ne_eq, Classical.not_not, not_false_eq_true, false_or, List.length_nil, icM, ic_lt, ic_eq, le_nl, ↓reduceIte, Nat.lt_irrefl, ri_ws, ri_wn, ri_as, ri_an, upd_s, upd_n, rp_wi, rp_wa, rl_wi, rl_wa, rl_wp, rl_wpa, rl_wl, rp_wl, ri_wl, rp_wd, ri_wd, in_rng, Int32.lt_irrefl, Nat.not_lt_zero, pk_nc, Nat.reduceEqDiff, Nat.succ_ne_self, Nat.one_ne_zero, Nat.add_left_cancel_iff, ri_wpa, ri_wp, QModel_mark_0, g22]
  | false =>
    have e : bw false = ic 0 := rfl
    rw [e] at g22
    by_cases h : p < l
    · have h6 : p < 60 := by omega
      rw [if_pos ⟨rfl, h⟩]
      simp (disch := first | assumption | (show (_ : Nat) < _; omega) | (show (_ : Nat) ≠ _; omega) | (show (_ : Nat) ≤ _; omega) | exact Or.inl rfl | exact Or.inr rfl) only [hG0, hG1, hG2, hF0, hF1, hA0, hA1, xL, xC, icL, Option.bind_some, Nat.le_add_right, Nat.le_refl, if_true, if_false, and_self, true_and, and_true, or_false, false_or, or_true, true_or, and_false, false_and, not_true_eq_false, not_false_eq_true, Nat.reduceAdd, Nat.reduceLeDiff, Nat.reduceLT, Option.toList_some, Option.toList_none, List.cons_append, List.nil_append, callK_ret, callR_ret, callK_thr, decide_true, Bool.true_and, xNr, bI0, bIT, bIF, ne_eq, Classical.not_not, not_false_eq_true, false_or, List.length_nil, icM, ic_lt, ic_eq, le_nl, ↓reduceIte, Nat.lt_irrefl, ri_ws, ri_wn, ri_as, ri_an, upd_s, upd_n, rp_wi, rp_wa, rl_wi, rl_wa, rl_wp, rl_wpa, rl_wl, rp_wl, ri_wl, rp_wd, ri_wd, in_rng, Int32.lt_irrefl, Nat.not_lt_zero, pk_nc, Nat.reduceEqDiff, Nat.succ_ne_self, Nat.one_ne_zero, Nat.add_left_cancel_iff, ri_wpa, ri_wp, QModel_mark_0, g22, g20, g19, h, g300]
    · rw [if_neg (fun z => h z.2)]
      simp (disch := first | assumption | (show (_ : Nat) < _; omega) | (show (_ : Nat) ≠ _; omega) | (show (_ : Nat) ≤ _; omega) | exact Or.inl rfl | exact Or.inr rfl) only [hG0, hG1, hG2, hF0, hF1, hA0, hA1, xL, xC, icL, Option.bind_some, Nat.le_add_right, Nat.le_refl, if_true, if_false, and_self, true_and, and_true, or_false, false_or, or_true, true_or, and_false, false_and, not_true_eq_false, not_false_eq_true, Nat.reduceAdd, Nat.reduceLeDiff, Nat.reduceLT, Option.toList_some, Option.toList_none, List.cons_append, List.nil_append, callK_ret, callR_ret, callK_thr, decide_true, Bool.true_and, xNr, bI0, bIT, bIF, ne_eq, Classical.not_not, not_false_eq_true, false_or, List.length_nil, icM, ic_lt, ic_eq, le_nl, ↓reduceIte, Nat.lt_irrefl, ri_ws, ri_wn, ri_as, ri_an, upd_s, upd_n, rp_wi, rp_wa, rl_wi, rl_wa, rl_wp, rl_wpa, rl_wl, rp_wl, ri_wl, rp_wd, ri_wd, in_rng, Int32.lt_irrefl, Nat.not_lt_zero, pk_nc, Nat.reduceEqDiff, Nat.succ_ne_self, Nat.one_ne_zero, Nat.add_left_cancel_iff, ri_wpa, ri_wp, QModel_mark_0, g22, g20, g19, h]
/-- a sign wanted -/
def exB (t : Nat → Int32) (l p : Nat) (b : Bool) (c : Int32) : Bool := b || !decide (mkF t l p b = c)
theorem m_expect {l p : Nat} {b : Bool} (hl : ri m 292 19 = ic l) (h60 : l ≤ 60) (hp6 : p ≤ 60) {c : Int32} : Mt (n0, S0) (d + 2) 233 [.ref (n0 + 292), .int c] (hp n0 G (psR m p b), N, z) = some (.inl none, (hp n0 G (psR m (if exB (ri m 300) l p b c then p else p + 1) (exB (ri m 300) l p b c)), N, z)) := by
  have k292 : kd 292 = 18 := rfl
  have hm := m_mark (n0 := n0) (S0 := S0) (G := G) (d := d) (N := N) (z := z) (b := b) hl h60 hp6
  have g22 : ri (psR m p b) 292 22 = bw b := psR_22
  have w1 : wi (psR m p b) 292 22 (ic 1) = psR m p true := psR_w22 (c := true)
  have w0 : wi (psR m p b) 292 22 (ic 0) = psR m p false := psR_w22 (c := false)
  have a22 : ri (psR m p true) 292 22 = ic 1 := psR_22
  have b22 : ri (psR m p false) 292 22 = ic 0 := psR_22
  have a20 : ri (psR m p true) 292 20 = ic p := psR_20
  have b20 : ri (psR m p false) 292 20 = ic p := psR_20
  have w2 : wi (psR m p true) 292 20 (ic p) = psR m p true := psR_w20
  have w3 : wi (psR m p false) 292 20 (ic (p + 1)) = psR m (p + 1) false := psR_w20
  unfold exB
  rw [NModel_expect]
  by_cases h : mkF (ri m 300) l p b = c
  · rw [decide_eq_true h]
    cases b with
    | true =>
      have e : bw true = ic 1 := rfl
      rw [e] at g22
      simp only [Bool.true_or, if_true]
      generalize psR m p true = MT at *
      simp (disch := first | assumption | (show (_ : Nat) < _; omega) | (show (_ : Nat) ≠ _; omega) | (show (_ : Nat) ≤ _; omega) | exact Or.inl rfl | exact Or.inr rfl) only [hG0, hG1, hG2, hF0, hF1, hA0, hA1, xL, xC, icL, Option.bind_some, Nat.le_add_right, Nat.le_refl, if_true, if_false, and_self, true_and, and_true, or_false, false_or, or_true, true_or, and_false, false_and, not_true_eq_false, not_false_eq_true, Nat.reduceAdd, Nat.reduceLeDiff, Nat.reduceLT, Option.toList_some, Option.toList_none, List.cons_append, List.nil_append, callK_ret, callR_ret, callK_thr, decide_true, Bool.true_and, xNr, bI0, bIT, bIF, ne_eq, Classical.not_not, not_false_eq_true, false_or, List.length_nil, icM, ic_lt, ic_eq, le_nl, ↓reduceIte, Nat.lt_irrefl, ri_ws, ri_wn, ri_as, ri_an, upd_s, upd_n, rp_wi, rp_wa, rl_wi, rl_wa, rl_wp, rl_wpa, rl_wl, rp_wl, ri_wl, rp_wd, ri_wd, in_rng, Int32.lt_irrefl, Nat.not_lt_zero, pk_nc, Nat.reduceEqDiff, Nat.succ_ne_self, Nat.one_ne_zero, Nat.add_left_cancel_iff, ri_wpa, ri_wp, QModel_expect_0, QModel_expect_1, g22, hm, h, or4, w1, a20, a22, ic_add, Nat.add_zero, w2]
    | false =>
      have e : bw false = ic 0 := rfl
      rw [e] at g22
      simp only [Bool.not_true, Bool.or_false, Bool.false_eq_true, if_false]
      generalize psR m p false = MT at *
      simp (disch := first | assumption | (show (_ : Nat) < _; omega) | (show (_ : Nat) ≠ _; omega) | (show (_ : Nat) ≤ _; omega) | exact Or.inl rfl | exact Or.inr rfl) only [hG0, hG1, hG2, hF0, hF1, hA0, hA1, xL, xC, icL, Option.bind_some, Nat.le_add_right, Nat.le_refl, if_true, if_false, and_self, true_and, and_true, or_false, false_or, or_true, true_or, and_false, false_and, not_true_eq_false, not_false_eq_true, Nat.reduceAdd, Nat.reduceLeDiff, Nat.reduceLT, Option.toList_some, Option.toList_none, List.cons_append, List.nil_append, callK_ret, callR_ret, callK_thr, decide_true, Bool.true_and, xNr, bI0, bIT, bIF, ne_eq, Classical.not_not, not_false_eq_true, false_or, List.length_nil, icM, ic_lt, ic_eq, le_nl, ↓reduceIte, Nat.lt_irrefl, ri_ws, ri_wn, ri_as, ri_an, upd_s, upd_n, rp_wi, rp_wa, rl_wi, rl_wa, rl_wp, rl_wpa, rl_wl, rp_wl, ri_wl, rp_wd, ri_wd, in_rng, Int32.lt_irrefl, Nat.not_lt_zero, pk_nc, Nat.reduceEqDiff, Nat.succ_ne_self, Nat.one_ne_zero, Nat.add_left_cancel_iff, ri_wpa, ri_wp, QModel_expect_0, QModel_expect_1, g22, hm, h, or4, w0, b20, b22, ic_add, w3]
  · rw [decide_eq_false h]
    simp only [Bool.not_false, Bool.or_true, if_true]
    cases b with
    | true =>
      have e : bw true = ic 1 := rfl
      rw [e] at g22
      generalize psR m p true = MT at *
      simp (disch := first | assumption | (show (_ : Nat) < _; omega) | (show (_ : Nat) ≠ _; omega) | (show (_ : Nat) ≤ _; omega) | exact Or.inl rfl | exact Or.inr rfl) only [hG0, hG1, hG2, hF0, hF1, hA0, hA1, xL, xC, icL, Option.bind_some, Nat.le_add_right, Nat.le_refl, if_true, if_false, and_self, true_and, and_true, or_false, false_or, or_true, true_or, and_false, false_and, not_true_eq_false, not_false_eq_true, Nat.reduceAdd, Nat.reduceLeDiff, Nat.reduceLT, Option.toList_some, Option.toList_none, List.cons_append, List.nil_append, callK_ret, callR_ret, callK_thr, decide_true, Bool.true_and, xNr, bI0, bIT, bIF, ne_eq, Classical.not_not, not_false_eq_true, false_or, List.length_nil, icM, ic_lt, ic_eq, le_nl, ↓reduceIte, Nat.lt_irrefl, ri_ws, ri_wn, ri_as, ri_an, upd_s, upd_n, rp_wi, rp_wa, rl_wi, rl_wa, rl_wp, rl_wpa, rl_wl, rp_wl, ri_wl, rp_wd, ri_wd, in_rng, Int32.lt_irrefl, Nat.not_lt_zero, pk_nc, Nat.reduceEqDiff, Nat.succ_ne_self, Nat.one_ne_zero, Nat.add_left_cancel_iff, ri_wpa, ri_wp, QModel_expect_0, QModel_expect_1, g22, hm, h, or4, w1, a20, a22, ic_add, Nat.add_zero, w2]
    | false =>
      have e : bw false = ic 0 := rfl
      rw [e] at g22
      generalize psR m p true = MT at *
      generalize psR m p false = MS at *
      simp (disch := first | assumption | (show (_ : Nat) < _; omega) | (show (_ : Nat) ≠ _; omega) | (show (_ : Nat) ≤ _; omega) | exact Or.inl rfl | exact Or.inr rfl) only [hG0, hG1, hG2, hF0, hF1, hA0, hA1, xL, xC, icL, Option.bind_some, Nat.le_add_right, Nat.le_refl, if_true, if_false, and_self, true_and, and_true, or_false, false_or, or_true, true_or, and_false, false_and, not_true_eq_false, not_false_eq_true, Nat.reduceAdd, Nat.reduceLeDiff, Nat.reduceLT, Option.toList_some, Option.toList_none, List.cons_append, List.nil_append, callK_ret, callR_ret, callK_thr, decide_true, Bool.true_and, xNr, bI0, bIT, bIF, ne_eq, Classical.not_not, not_false_eq_true, false_or, List.length_nil, icM, ic_lt, ic_eq, le_nl, ↓reduceIte, Nat.lt_irrefl, ri_ws, ri_wn, ri_as, ri_an, upd_s, upd_n, rp_wi, rp_wa, rl_wi, rl_wa, rl_wp, rl_wpa, rl_wl, rp_wl, ri_wl, rp_wd, ri_wd, in_rng, Int32.lt_irrefl, Nat.not_lt_zero, pk_nc, Nat.reduceEqDiff, Nat.succ_ne_self, Nat.one_ne_zero, Nat.add_left_cancel_iff, ri_wpa, ri_wp, QModel_expect_0, QModel_expect_1, g22, hm, h, or4, w1, a20, a22, ic_add, Nat.add_zero, w2]
/-- a kind's letter wanted -/
def kmB (t : Nat → Int32) (l p : Nat) (b : Bool) : Bool := b || !decide (¬ mkF t l p b < ic 97 ∧ mkF t l p b < ic 101)
theorem m_kindMark {l p : Nat} {b : Bool} (hl : ri m 292 19 = ic l) (h60 : l ≤ 60) (hp6 : p ≤ 60) : Mt (n0, S0) (d + 3) 238 [.ref (n0 + 292)] (hp n0 G (psR m p b), N, z) = oI n0 G (psR m (if kmB (ri m 300) l p b then p else p + 1) (kmB (ri m 300) l p b)) N z (mkF (ri m 300) l p b) := by
  have k292 : kd 292 = 18 := rfl
  have hm := m_mark (n0 := n0) (S0 := S0) (G := G) (d := d + 1) (N := N) (z := z) (b := b) hl h60 hp6
  have hk := fun (σ : sS) => m_isKind (n0 := n0) (S0 := S0) (d := d) (σ := σ) (w := mkF (ri m 300) l p b)
  have g22 : ri (psR m p b) 292 22 = bw b := psR_22
  have w1 : wi (psR m p b) 292 22 (ic 1) = psR m p true := psR_w22 (c := true)
  have w0 : wi (psR m p b) 292 22 (ic 0) = psR m p false := psR_w22 (c := false)
  have a22 : ri (psR m p true) 292 22 = ic 1 := psR_22
  have b22 : ri (psR m p false) 292 22 = ic 0 := psR_22
  have a20 : ri (psR m p true) 292 20 = ic p := psR_20
  have b20 : ri (psR m p false) 292 20 = ic p := psR_20
  have w2 : wi (psR m p true) 292 20 (ic p) = psR m p true := psR_w20
  have w3 : wi (psR m p false) 292 20 (ic (p + 1)) = psR m (p + 1) false := psR_w20
  unfold kmB
  rw [NModel_kindMark]
  generalize mkF (ri m 300) l p b = q at *
  by_cases h : ¬ q < ic 97 ∧ q < ic 101
  · have hb1 : bI (¬ q < ic 97 ∧ q < ic 101) = ic 1 := if_pos h
    rw [hb1] at hk
    rw [decide_eq_true h]
    cases b with
    | true =>
      have e : bw true = ic 1 := rfl
      rw [e] at g22
      simp only [Bool.true_or, if_true]
      generalize psR m p true = MT at *
      simp (disch := first | assumption | (show (_ : Nat) < _; omega) | (show (_ : Nat) ≠ _; omega) | (show (_ : Nat) ≤ _; omega) | exact Or.inl rfl | exact Or.inr rfl) only [hG0, hG1, hG2, hF0, hF1, hA0, hA1, xL, xC, icL, Option.bind_some, Nat.le_add_right, Nat.le_refl, if_true, if_false, and_self, true_and, and_true, or_false, false_or, or_true, true_or, and_false, false_and, not_true_eq_false, not_false_eq_true, Nat.reduceAdd, Nat.reduceLeDiff, Nat.reduceLT, Option.toList_some, Option.toList_none, List.cons_append, List.nil_append, callK_ret, callR_ret, callK_thr, decide_true, Bool.true_and, xNr, bI0, bIT, bIF, ne_eq, Classical.not_not, not_false_eq_true, false_or, List.length_nil, icM, ic_lt, ic_eq, le_nl, ↓reduceIte, Nat.lt_irrefl, ri_ws, ri_wn, ri_as, ri_an, upd_s, upd_n, rp_wi, rp_wa, rl_wi, rl_wa, rl_wp, rl_wpa, rl_wl, rp_wl, ri_wl, rp_wd, ri_wd, in_rng, Int32.lt_irrefl, Nat.not_lt_zero, pk_nc, Nat.reduceEqDiff, Nat.succ_ne_self, Nat.one_ne_zero, Nat.add_left_cancel_iff, ri_wpa, ri_wp, QModel_kindMark_0, QModel_kindMark_1, g22, hm, hk, or4, w1, a20, a22, ic_add, Nat.add_zero, w2]
    | false =>
      have e : bw false = ic 0 := rfl
      rw [e] at g22
      simp only [Bool.not_true, Bool.or_false, Bool.false_eq_true, if_false]
      generalize psR m p false = MT at *
      simp (disch := first | assumption | (show (_ : Nat) < _; omega) | (show (_ : Nat) ≠ _; omega) | (show (_ : Nat) ≤ _; omega) | exact Or.inl rfl | exact Or.inr rfl) only [hG0, hG1, hG2, hF0, hF1, hA0, hA1, xL, xC, icL, Option.bind_some, Nat.le_add_right, Nat.le_refl, if_true, if_false, and_self, true_and, and_true, or_false, false_or, or_true, true_or, and_false, false_and, not_true_eq_false, not_false_eq_true, Nat.reduceAdd, Nat.reduceLeDiff, Nat.reduceLT, Option.toList_some, Option.toList_none, List.cons_append, List.nil_append, callK_ret, callR_ret, callK_thr, decide_true, Bool.true_and, xNr, bI0, bIT, bIF, ne_eq, Classical.not_not, not_false_eq_true, false_or, List.length_nil, icM, ic_lt, ic_eq, le_nl, ↓reduceIte, Nat.lt_irrefl, ri_ws, ri_wn, ri_as, ri_an, upd_s, upd_n, rp_wi, rp_wa, rl_wi, rl_wa, rl_wp, rl_wpa, rl_wl, rp_wl, ri_wl, rp_wd, ri_wd, in_rng, Int32.lt_irrefl, Nat.not_lt_zero, pk_nc, Nat.reduceEqDiff, Nat.succ_ne_self, Nat.one_ne_zero, Nat.add_left_cancel_iff, ri_wpa, ri_wp, QModel_kindMark_0, QModel_kindMark_1, g22, hm, hk, or4, w0, b20, b22, ic_add, w3]
  · have hb1 : bI (¬ q < ic 97 ∧ q < ic 101) = ic 0 := if_neg h
    rw [hb1] at hk
    rw [decide_eq_false h]
    simp only [Bool.not_false, Bool.or_true, if_true]
    cases b with
    | true =>
      have e : bw true = ic 1 := rfl
      rw [e] at g22
      generalize psR m p true = MT at *
      simp (disch := first | assumption | (show (_ : Nat) < _; omega) | (show (_ : Nat) ≠ _; omega) | (show (_ : Nat) ≤ _; omega) | exact Or.inl rfl | exact Or.inr rfl) only [hG0, hG1, hG2, hF0, hF1, hA0, hA1, xL, xC, icL, Option.bind_some, Nat.le_add_right, Nat.le_refl, if_true, if_false, and_self, true_and, and_true, or_false, false_or, or_true, true_or, and_false, false_and, not_true_eq_false, not_false_eq_true, Nat.reduceAdd, Nat.reduceLeDiff, Nat.reduceLT, Option.toList_some, Option.toList_none, List.cons_append, List.nil_append, callK_ret, callR_ret, callK_thr, decide_true, Bool.true_and, xNr, bI0, bIT, bIF, ne_eq, Classical.not_not, not_false_eq_true, false_or, List.length_nil, icM, ic_lt, ic_eq, le_nl, ↓reduceIte, Nat.lt_irrefl, ri_ws, ri_wn, ri_as, ri_an, upd_s, upd_n, rp_wi, rp_wa, rl_wi, rl_wa, rl_wp, rl_wpa, rl_wl, rp_wl, ri_wl, rp_wd, ri_wd, in_rng, Int32.lt_irrefl, Nat.not_lt_zero, pk_nc, Nat.reduceEqDiff, Nat.succ_ne_self, Nat.one_ne_zero, Nat.add_left_cancel_iff, ri_wpa, ri_wp, QModel_kindMark_0, QModel_kindMark_1, g22, hm, hk, or4, w1, a20, a22, ic_add, Nat.add_zero, w2]
    | false =>
      have e : bw false = ic 0 := rfl
      rw [e] at g22
      generalize psR m p true = MT at *
      generalize psR m p false = MS at *
      simp (disch := first | assumption | (show (_ : Nat) < _; omega) | (show (_ : Nat) ≠ _; omega) | (show (_ : Nat) ≤ _; omega) | exact Or.inl rfl | exact Or.inr rfl) only [hG0, hG1, hG2, hF0, hF1, hA0, hA1, xL, xC, icL, Option.bind_some, Nat.le_add_right, Nat.le_refl, if_true, if_false, and_self, true_and, and_true, or_false, false_or, or_true, true_or, and_false, false_and, not_true_eq_false, not_false_eq_true, Nat.reduceAdd, Nat.reduceLeDiff, Nat.reduceLT, Option.toList_some, Option.toList_none, List.cons_append, List.nil_append, callK_ret, callR_ret, callK_thr, decide_true, Bool.true_and, xNr, bI0, bIT, bIF, ne_eq, Classical.not_not, not_false_eq_true, false_or, List.length_nil, icM, ic_lt, ic_eq, le_nl, ↓reduceIte, Nat.lt_irrefl, ri_ws, ri_wn, ri_as, ri_an, upd_s, upd_n, rp_wi, rp_wa, rl_wi, rl_wa, rl_wp, rl_wpa, rl_wl, rp_wl, ri_wl, rp_wd, ri_wd, in_rng, Int32.lt_irrefl, Nat.not_lt_zero, pk_nc, Nat.reduceEqDiff, Nat.succ_ne_self, Nat.one_ne_zero, Nat.add_left_cancel_iff, ri_wpa, ri_wp, QModel_kindMark_0, QModel_kindMark_1, g22, hm, hk, or4, w1, a20, a22, ic_add, Nat.add_zero, w2]
end M19
