/-! the reference's word; expanded by wip/whole/px.py out of wip/whole/m22.src -/
/-- how much of word w stands at p -/
def mtF (t : Nat → Int32) (l p w : Nat) : Nat → Nat → Nat
  | 0, k => k
  | f + 1, k => if 0 < spF w k ∧ p + k < l ∧ t (p + k) = ic (spF w k) then mtF t l p w f (k + 1) else k
/-- the word that stands at p, where it ends; or how far a word goes -/
def wdF (t : Nat → Int32) (l p : Nat) : Nat → Nat → Nat → Option Nat × Nat
  | 0, _, lo => (none, p + lo)
  | f + 1, w, lo => if spF w (mtF t l p w 6 0) = 0 then (some w, p + mtF t l p w 6 0) else wdF t l p f (w + 1) (if lo < mtF t l p w 6 0 then mtF t l p w 6 0 else lo)
theorem spF_b : ∀ w, w < 11 → ∀ k, k ≤ 6 → spF w k < 128 := by decide
theorem spF_6 : ∀ w, w < 11 → spF w 6 = 0 := by decide
theorem mtF_le (t : Nat → Int32) (l p w : Nat) : ∀ f k, k ≤ mtF t l p w f k ∧ mtF t l p w f k ≤ k + f := by
  intro f
  induction f with
  | zero => intro k; exact ⟨Nat.le_refl _, Nat.le_refl _⟩
  | succ f ih =>
    intro k
    unfold mtF
    split
    · have := ih (k + 1); omega
    · omega
theorem mtF_l (t : Nat → Int32) (l p w : Nat) : ∀ f k, p + k ≤ l → p + mtF t l p w f k ≤ l := by
  intro f
  induction f with
  | zero => intro k h; exact h
  | succ f ih =>
    intro k h
    unfold mtF
    split
    · rename_i h2
      exact ih (k + 1) (by omega)
    · exact h
section M22
variable {n0 N z d : Nat} {S0 : Nat → Value} {G : sH} {m : mm}
theorem m_match {l p w : Nat} {b : Bool} (hl : ri m 292 19 = ic l) (h60 : l ≤ 60) (hw : w < 11) (hpl : p ≤ l) {lo : Int32} : ∀ f k, k + f = 6 → ∀ N z, Rx (n0, S0) (d + 2) 230 12 [some (.ref (n0 + 292)), some (.int lo), some (.int (ic w)), some (.int (ic k))] [] (hp n0 G (psR m p b), N, z) = Rx (n0, S0) (d + 2) 230 58 [some (.ref (n0 + 292)), some (.int lo), some (.int (ic w)), some (.int (ic (mtF (ri m 300) l p w f k)))] [] (hp n0 G (psR m p b), N, z) := by
  have k292 : kd 292 = 18 := rfl
  have k300 : kd 300 = 22 := rfl
  have g19 : ri (psR m p b) 292 19 = ic l := (psR_f (by decide) (by decide)).trans hl
  have g20 : ri (psR m p b) 292 20 = ic p := psR_20
  have g300 : ri (psR m p b) 300 = ri m 300 := psR_o (by decide)
  intro f
  induction f with
  | zero =>
    intro k hk N z
    obtain rfl : k = 6 := by omega
    have hsp := fun (σ : sS) => m_spelled (n0 := n0) (S0 := S0) (d := d) hw (Nat.le_refl 6) (σ := σ)
    rw [spF_6 w hw] at hsp
    unfold mtF
    rw [HModel_word_12]
    generalize psR m p b = M at *
    simp (disch := first | assumption | (show (_ : Nat) < _; omega) | (show (_ : Nat) ≠ _; omega) | (show (_ : Nat) ≤ _; omega) | exact Or.inl rfl | exact Or.inr rfl) only [hG0, hG1, hG2, hF0, hF1, hA0, hA1, xL, xC, icL, Option.bind_some, Nat.le_add_right, Nat.le_refl, if_true, if_false, and_self, true_and, and_true, or_false, false_or, or_true, true_or, and_false, false_and, not_true_eq_false, not_false_eq_true, Nat.reduceAdd, Nat.reduceLeDiff, Nat.reduceLT, Option.toList_some, Option.toList_none, List.cons_append, List.nil_append, callK_ret, callR_ret, callK_thr, decide_true, Bool.true_and, xNr, bI0, bIT, bIF, ne_eq, Classical.not_not, not_false_eq_true, false_or, List.length_nil, icM, ic_lt, ic_eq, le_nl, ↓reduceIte, Nat.lt_irrefl, ri_ws, ri_wn, ri_as, ri_an, upd_s, upd_n, rp_wi, rp_wa, rl_wi, rl_wa, rl_wp, rl_wpa, rl_wl, rp_wl, ri_wl, rp_wd, ri_wd, in_rng, Int32.lt_irrefl, Nat.not_lt_zero, pk_nc, Nat.reduceEqDiff, Nat.succ_ne_self, Nat.one_ne_zero, Nat.add_left_cancel_iff, ri_wpa, ri_wp, QModel_word_0, QModel_word_1, QModel_word_2, hsp]
  | succ f ih =>
    intro k hk N z
    have hsp := fun (σ : sS) => m_spelled (n0 := n0) (S0 := S0) (d := d) hw (show k ≤ 6 by omega) (σ := σ)
    have hb := spF_b w hw k (by omega)
    have hi := ih (k + 1) (by omega) N z
    unfold mtF
    rw [HModel_word_12]
    generalize mtF (ri m 300) l p w f (k + 1) = R at *
    generalize psR m p b = M at *
    generalize spF w k = q at *
    by_cases h1 : 0 < q
    · by_cases h2 : p + k < l
      · have h26 : p + k < 60 := by omega
        by_cases h3 : ri m 300 (p + k) = ic q
        · rw [if_pos ⟨h1, h2, h3⟩]
          simp (disch := first | assumption | (show (_ : Nat) < _; omega) | (show (_ : Nat) ≠ _; omega) | (show (_ : Nat) ≤ _; omega) | exact Or.inl rfl | exact Or.inr rfl) only [hG0, hG1, hG2, hF0, hF1, hA0, hA1, xL, xC, icL, Option.bind_some, Nat.le_add_right, Nat.le_refl, if_true, if_false, and_self, true_and, and_true, or_false, false_or, or_true, true_or, and_false, false_and, not_true_eq_false, not_false_eq_true, Nat.reduceAdd, Nat.reduceLeDiff, Nat.reduceLT, Option.toList_some, Option.toList_none, List.cons_append, List.nil_append, callK_ret, callR_ret, callK_thr, decide_true, Bool.true_and, xNr, bI0, bIT, bIF, ne_eq, Classical.not_not, not_false_eq_true, false_or, List.length_nil, icM, ic_lt, ic_eq, le_nl, ↓reduceIte, Nat.lt_irrefl, ri_ws, ri_wn, ri_as, ri_an, upd_s, upd_n, rp_wi, rp_wa, rl_wi, rl_wa, rl_wp, rl_wpa, rl_wl, rp_wl, ri_wl, rp_wd, ri_wd, in_rng, Int32.lt_irrefl, Nat.not_lt_zero, pk_nc, Nat.reduceEqDiff, Nat.succ_ne_self, Nat.one_ne_zero, Nat.add_left_cancel_iff, ri_wpa, ri_wp, QModel_word_0, QModel_word_1, QModel_word_2, hsp, h1, g19, g20, ic_add, h2, g300, h3, hi]
        · rw [if_neg (fun z => h3 z.2.2)]
          simp (disch := first | assumption | (show (_ : Nat) < _; omega) | (show (_ : Nat) ≠ _; omega) | (show (_ : Nat) ≤ _; omega) | exact Or.inl rfl | exact Or.inr rfl) only [hG0, hG1, hG2, hF0, hF1, hA0, hA1, xL, xC, icL, Option.bind_some, Nat.le_add_right, Nat.le_refl, if_true, if_false, and_self, true_and, and_true, or_false, false_or, or_true, true_or, and_false, false_and, not_true_eq_false, not_false_eq_true, Nat.reduceAdd, Nat.reduceLeDiff, Nat.reduceLT, Option.toList_some, Option.toList_none, List.cons_append, List.nil_append, callK_ret, callR_ret, callK_thr, decide_true, Bool.true_and, xNr, bI0, bIT, bIF, ne_eq, Classical.not_not, not_false_eq_true, false_or, List.length_nil, icM, ic_lt, ic_eq, le_nl, ↓reduceIte, Nat.lt_irrefl, ri_ws, ri_wn, ri_as, ri_an, upd_s, upd_n, rp_wi, rp_wa, rl_wi, rl_wa, rl_wp, rl_wpa, rl_wl, rp_wl, ri_wl, rp_wd, ri_wd, in_rng, Int32.lt_irrefl, Nat.not_lt_zero, pk_nc, Nat.reduceEqDiff, Nat.succ_ne_self, Nat.one_ne_zero, Nat.add_left_cancel_iff, ri_wpa, ri_wp, QModel_word_0, QModel_word_1, QModel_word_2, hsp, h1, g19, g20, ic_add, h2, g300, h3]
      · rw [if_neg (fun z => h2 z.2.1)]
        simp (disch := first | assumption | (show (_ : Nat) < _; omega) | (show (_ : Nat) ≠ _; omega) | (show (_ : Nat) ≤ _; omega) | exact Or.inl rfl | exact Or.inr rfl) only [hG0, hG1, hG2, hF0, hF1, hA0, hA1, xL, xC, icL, Option.bind_some, Nat.le_add_right, Nat.le_refl, if_true, if_false, and_self, true_and, and_true, or_false, false_or, or_true, true_or, and_false, false_and, not_true_eq_false, not_false_eq_true, Nat.reduceAdd, Nat.reduceLeDiff, Nat.reduceLT, Option.toList_some, Option.toList_none, List.cons_append, List.nil_append, callK_ret, callR_ret, callK_thr, decide_true, Bool.true_and, xNr, bI0, bIT, bIF, ne_eq, Classical.not_not, not_false_eq_true, false_or, List.length_nil, icM, ic_lt, ic_eq, le_nl, ↓reduceIte, Nat.lt_irrefl, ri_ws, ri_wn, ri_as, ri_an, upd_s, upd_n, rp_wi, rp_wa, rl_wi, rl_wa, rl_wp, rl_wpa, rl_wl, rp_wl, ri_wl, rp_wd, ri_wd, in_rng, Int32.lt_irrefl, Nat.not_lt_zero, pk_nc, Nat.reduceEqDiff, Nat.succ_ne_self, Nat.one_ne_zero, Nat.add_left_cancel_iff, ri_wpa, ri_wp, QModel_word_0, QModel_word_1, QModel_word_2, hsp, h1, g19, g20, ic_add, h2]
    · rw [if_neg (fun z => h1 z.1)]
      simp (disch := first | assumption | (show (_ : Nat) < _; omega) | (show (_ : Nat) ≠ _; omega) | (show (_ : Nat) ≤ _; omega) | exact Or.inl rfl | exact Or.inr rfl) only [hG0, hG1, hG2, hF0, hF1, hA0, hA1, xL, xC, icL, Option.bind_some, Nat.le_add_right, Nat.le_refl, if_true, if_false, and_self, true_and, and_true, or_false, false_or, or_true, true_or, and_false, false_and, not_true_eq_false, not_false_eq_true, Nat.reduceAdd, Nat.reduceLeDiff, Nat.reduceLT, Option.toList_some, Option.toList_none, List.cons_append, List.nil_append, callK_ret, callR_ret, callK_thr, decide_true, Bool.true_and, xNr, bI0, bIT, bIF, ne_eq, Classical.not_not, not_false_eq_true, false_or, List.length_nil, icM, ic_lt, ic_eq, le_nl, ↓reduceIte, Nat.lt_irrefl, ri_ws, ri_wn, ri_as, ri_an, upd_s, upd_n, rp_wi, rp_wa, rl_wi, rl_wa, rl_wp, rl_wpa, rl_wl, rp_wl, ri_wl, rp_wd, ri_wd, in_rng, Int32.lt_irrefl, Nat.not_lt_zero, pk_nc, Nat.reduceEqDiff, Nat.succ_ne_self, Nat.one_ne_zero, Nat.add_left_cancel_iff, ri_wpa, ri_wp, QModel_word_0, QModel_word_1, QModel_word_2, hsp, h1]
/-- what a word's reading leaves -/
def wdO (n0 : Nat) (G : sH) (m : mm) (b : Bool) (N z : Nat) (r : Option Nat × Nat) : Option sO := match r.1 with
  | some w => oI n0 G (psR m r.2 b) N z (ic w)
  | none => oI n0 G (psR m r.2 true) N z (ic 0)
theorem m_wordLoop {l p : Nat} {b : Bool} (hl : ri m 292 19 = ic l) (h60 : l ≤ 60) (hpl : p ≤ l) : ∀ f w lo l3, w + f = 11 → lo ≤ 6 → ∀ N z, Rx (n0, S0) (d + 2) 230 4 [some (.ref (n0 + 292)), some (.int (ic lo)), some (.int (ic w)), l3] [] (hp n0 G (psR m p b), N, z) = wdO n0 G m b N z (wdF (ri m 300) l p f w lo) := by
  have k292 : kd 292 = 18 := rfl
  have g20 : ri (psR m p b) 292 20 = ic p := psR_20
  intro f
  induction f with
  | zero =>
    intro w lo l3 hf hlo N z
    obtain rfl : w = 11 := by omega
    have w20 : wi (psR m p b) 292 20 (ic (p + lo)) = psR m (p + lo) b := psR_w20
    have w22 : wi (psR m (p + lo) b) 292 22 (ic 1) = psR m (p + lo) true := psR_w22 (c := true)
    unfold wdF wdO
    rw [HModel_word_4]
    dsimp only
    generalize psR m (p + lo) true = M3 at *
    generalize psR m (p + lo) b = M2 at *
    generalize psR m p b = M at *
    simp (disch := first | assumption | (show (_ : Nat) < _; omega) | (show (_ : Nat) ≠ _; omega) | (show (_ : Nat) ≤ _; omega) | exact Or.inl rfl | exact Or.inr rfl) only [hG0, hG1, hG2, hF0, hF1, hA0, hA1, xL, xC, icL, Option.bind_some, Nat.le_add_right, Nat.le_refl, if_true, if_false, and_self, true_and, and_true, or_false, false_or, or_true, true_or, and_false, false_and, not_true_eq_false, not_false_eq_true, Nat.reduceAdd, Nat.reduceLeDiff, Nat.reduceLT, Option.toList_some, Option.toList_none, List.cons_append, List.nil_append, callK_ret, callR_ret, callK_thr, decide_true, Bool.true_and, xNr, bI0, bIT, bIF, ne_eq, Classical.not_not, not_false_eq_true, false_or, List.length_nil, icM, ic_lt, ic_eq, le_nl, ↓reduceIte, Nat.lt_irrefl, ri_ws, ri_wn, ri_as, ri_an, upd_s, upd_n, rp_wi, rp_wa, rl_wi, rl_wa, rl_wp, rl_wpa, rl_wl, rp_wl, ri_wl, rp_wd, ri_wd, in_rng, Int32.lt_irrefl, Nat.not_lt_zero, pk_nc, Nat.reduceEqDiff, Nat.succ_ne_self, Nat.one_ne_zero, Nat.add_left_cancel_iff, ri_wpa, ri_wp, QModel_word_0, QModel_word_1, QModel_word_2, g20, ic_add, w20, w22]
  | succ f ih =>
    intro w lo l3 hf hlo N z
    have hw : w < 11 := by omega
    have hmt := m_match (n0 := n0) (S0 := S0) (G := G) (d := d) (b := b) hl h60 hw hpl (lo := ic lo) 6 0 rfl N z
    have hle := mtF_le (ri m 300) l p w 6 0
    have hll := mtF_l (ri m 300) l p w 6 0 (by omega)
    have hsp := fun (σ : sS) => m_spelled (n0 := n0) (S0 := S0) (d := d) hw (show mtF (ri m 300) l p w 6 0 ≤ 6 by omega) (σ := σ)
    have hb := spF_b w hw (mtF (ri m 300) l p w 6 0) (by omega)
    unfold wdF
    rw [HModel_word_4]
    generalize mtF (ri m 300) l p w 6 0 = k at *
    have w20 : wi (psR m p b) 292 20 (ic (p + k)) = psR m (p + k) b := psR_w20
    generalize hq : spF w k = q at *
    by_cases h : q = 0
    · rw [if_pos h]
      unfold wdO
      dsimp only
      generalize psR m (p + k) b = M2 at *
      generalize psR m p b = M at *
      simp (disch := first | assumption | (show (_ : Nat) < _; omega) | (show (_ : Nat) ≠ _; omega) | (show (_ : Nat) ≤ _; omega) | exact Or.inl rfl | exact Or.inr rfl) only [hG0, hG1, hG2, hF0, hF1, hA0, hA1, xL, xC, icL, Option.bind_some, Nat.le_add_right, Nat.le_refl, if_true, if_false, and_self, true_and, and_true, or_false, false_or, or_true, true_or, and_false, false_and, not_true_eq_false, not_false_eq_true, Nat.reduceAdd, Nat.reduceLeDiff, Nat.reduceLT, Option.toList_some, Option.toList_none, List.cons_append, List.nil_append, callK_ret, callR_ret, callK_thr, decide_true, Bool.true_and, xNr, bI0, bIT, bIF, ne_eq, Classical.not_not, not_false_eq_true, false_or, List.length_nil, icM, ic_lt, ic_eq, le_nl, ↓reduceIte, Nat.lt_irrefl, ri_ws, ri_wn, ri_as, ri_an, upd_s, upd_n, rp_wi, rp_wa, rl_wi, rl_wa, rl_wp, rl_wpa, rl_wl, rp_wl, ri_wl, rp_wd, ri_wd, in_rng, Int32.lt_irrefl, Nat.not_lt_zero, pk_nc, Nat.reduceEqDiff, Nat.succ_ne_self, Nat.one_ne_zero, Nat.add_left_cancel_iff, ri_wpa, ri_wp, QModel_word_0, QModel_word_1, QModel_word_2, hw]
      rw [hmt]
      simp (disch := first | assumption | (show (_ : Nat) < _; omega) | (show (_ : Nat) ≠ _; omega) | (show (_ : Nat) ≤ _; omega) | exact Or.inl rfl | exact Or.inr rfl) only [hG0, hG1, hG2, hF0, hF1, hA0, hA1, xL, xC, icL, Option.bind_some, Nat.le_add_right, Nat.le_refl, if_true, if_false, and_self, true_and, and_true, or_false, false_or, or_true, true_or, and_false, false_and, not_true_eq_false, not_false_eq_true, Nat.reduceAdd, Nat.reduceLeDiff, Nat.reduceLT, Option.toList_some, Option.toList_none, List.cons_append, List.nil_append, callK_ret, callR_ret, callK_thr, decide_true, Bool.true_and, xNr, bI0, bIT, bIF, ne_eq, Classical.not_not, not_false_eq_true, false_or, List.length_nil, icM, ic_lt, ic_eq, le_nl, ↓reduceIte, Nat.lt_irrefl, ri_ws, ri_wn, ri_as, ri_an, upd_s, upd_n, rp_wi, rp_wa, rl_wi, rl_wa, rl_wp, rl_wpa, rl_wl, rp_wl, ri_wl, rp_wd, ri_wd, in_rng, Int32.lt_irrefl, Nat.not_lt_zero, pk_nc, Nat.reduceEqDiff, Nat.succ_ne_self, Nat.one_ne_zero, Nat.add_left_cancel_iff, ri_wpa, ri_wp, QModel_word_0, QModel_word_1, QModel_word_2, hsp, h, g20, ic_add, w20]
    · rw [if_neg h]
      have hk6 : k ≤ 6 := by omega
      by_cases h2 : lo < k
      · rw [if_pos h2]
        have hi := ih (w + 1) k (some (.int (ic k))) (by omega) hk6 N z
        rw [← hi]
        clear ih hi
        generalize psR m p b = M at *
        simp (disch := first | assumption | (show (_ : Nat) < _; omega) | (show (_ : Nat) ≠ _; omega) | (show (_ : Nat) ≤ _; omega) | exact Or.inl rfl | exact Or.inr rfl) only [hG0, hG1, hG2, hF0, hF1, hA0, hA1, xL, xC, icL, Option.bind_some, Nat.le_add_right, Nat.le_refl, if_true, if_false, and_self, true_and, and_true, or_false, false_or, or_true, true_or, and_false, false_and, not_true_eq_false, not_false_eq_true, Nat.reduceAdd, Nat.reduceLeDiff, Nat.reduceLT, Option.toList_some, Option.toList_none, List.cons_append, List.nil_append, callK_ret, callR_ret, callK_thr, decide_true, Bool.true_and, xNr, bI0, bIT, bIF, ne_eq, Classical.not_not, not_false_eq_true, false_or, List.length_nil, icM, ic_lt, ic_eq, le_nl, ↓reduceIte, Nat.lt_irrefl, ri_ws, ri_wn, ri_as, ri_an, upd_s, upd_n, rp_wi, rp_wa, rl_wi, rl_wa, rl_wp, rl_wpa, rl_wl, rp_wl, ri_wl, rp_wd, ri_wd, in_rng, Int32.lt_irrefl, Nat.not_lt_zero, pk_nc, Nat.reduceEqDiff, Nat.succ_ne_self, Nat.one_ne_zero, Nat.add_left_cancel_iff, ri_wpa, ri_wp, QModel_word_0, QModel_word_1, QModel_word_2, hw]
        rw [hmt]
        simp (disch := first | assumption | (show (_ : Nat) < _; omega) | (show (_ : Nat) ≠ _; omega) | (show (_ : Nat) ≤ _; omega) | exact Or.inl rfl | exact Or.inr rfl) only [hG0, hG1, hG2, hF0, hF1, hA0, hA1, xL, xC, icL, Option.bind_some, Nat.le_add_right, Nat.le_refl, if_true, if_false, and_self, true_and, and_true, or_false, false_or, or_true, true_or, and_false, false_and, not_true_eq_false, not_false_eq_true, Nat.reduceAdd, Nat.reduceLeDiff, Nat.reduceLT, Option.toList_some, Option.toList_none, List.cons_append, List.nil_append, callK_ret, callR_ret, callK_thr, decide_true, Bool.true_and, xNr, bI0, bIT, bIF, ne_eq, Classical.not_not, not_false_eq_true, false_or, List.length_nil, icM, ic_lt, ic_eq, le_nl, ↓reduceIte, Nat.lt_irrefl, ri_ws, ri_wn, ri_as, ri_an, upd_s, upd_n, rp_wi, rp_wa, rl_wi, rl_wa, rl_wp, rl_wpa, rl_wl, rp_wl, ri_wl, rp_wd, ri_wd, in_rng, Int32.lt_irrefl, Nat.not_lt_zero, pk_nc, Nat.reduceEqDiff, Nat.succ_ne_self, Nat.one_ne_zero, Nat.add_left_cancel_iff, ri_wpa, ri_wp, QModel_word_0, QModel_word_1, QModel_word_2, hsp, h, h2, ic_add]
      · rw [if_neg h2]
        have hi := ih (w + 1) lo (some (.int (ic k))) (by omega) hlo N z
        rw [← hi]
        clear ih hi
        generalize psR m p b = M at *
        simp (disch := first | assumption | (show (_ : Nat) < _; omega) | (show (_ : Nat) ≠ _; omega) | (show (_ : Nat) ≤ _; omega) | exact Or.inl rfl | exact Or.inr rfl) only [hG0, hG1, hG2, hF0, hF1, hA0, hA1, xL, xC, icL, Option.bind_some, Nat.le_add_right, Nat.le_refl, if_true, if_false, and_self, true_and, and_true, or_false, false_or, or_true, true_or, and_false, false_and, not_true_eq_false, not_false_eq_true, Nat.reduceAdd, Nat.reduceLeDiff, Nat.reduceLT, Option.toList_some, Option.toList_none, List.cons_append, List.nil_append, callK_ret, callR_ret, callK_thr, decide_true, Bool.true_and, xNr, bI0, bIT, bIF, ne_eq, Classical.not_not, not_false_eq_true, false_or, List.length_nil, icM, ic_lt, ic_eq, le_nl, ↓reduceIte, Nat.lt_irrefl, ri_ws, ri_wn, ri_as, ri_an, upd_s, upd_n, rp_wi, rp_wa, rl_wi, rl_wa, rl_wp, rl_wpa, rl_wl, rp_wl, ri_wl, rp_wd, ri_wd, in_rng, Int32.lt_irrefl, Nat.not_lt_zero, pk_nc, Nat.reduceEqDiff, Nat.succ_ne_self, Nat.one_ne_zero, Nat.add_left_cancel_iff, ri_wpa, ri_wp, QModel_word_0, QModel_word_1, QModel_word_2, hw]
        rw [hmt]
        simp (disch := first | assumption | (show (_ : Nat) < _; omega) | (show (_ : Nat) ≠ _; omega) | (show (_ : Nat) ≤ _; omega) | exact Or.inl rfl | exact Or.inr rfl) only [hG0, hG1, hG2, hF0, hF1, hA0, hA1, xL, xC, icL, Option.bind_some, Nat.le_add_right, Nat.le_refl, if_true, if_false, and_self, true_and, and_true, or_false, false_or, or_true, true_or, and_false, false_and, not_true_eq_false, not_false_eq_true, Nat.reduceAdd, Nat.reduceLeDiff, Nat.reduceLT, Option.toList_some, Option.toList_none, List.cons_append, List.nil_append, callK_ret, callR_ret, callK_thr, decide_true, Bool.true_and, xNr, bI0, bIT, bIF, ne_eq, Classical.not_not, not_false_eq_true, false_or, List.length_nil, icM, ic_lt, ic_eq, le_nl, ↓reduceIte, Nat.lt_irrefl, ri_ws, ri_wn, ri_as, ri_an, upd_s, upd_n, rp_wi, rp_wa, rl_wi, rl_wa, rl_wp, rl_wpa, rl_wl, rp_wl, ri_wl, rp_wd, ri_wd, in_rng, Int32.lt_irrefl, Nat.not_lt_zero, pk_nc, Nat.reduceEqDiff, Nat.succ_ne_self, Nat.one_ne_zero, Nat.add_left_cancel_iff, ri_wpa, ri_wp, QModel_word_0, QModel_word_1, QModel_word_2, hsp, h, h2, ic_add]
theorem m_word {l p : Nat} {b : Bool} (hl : ri m 292 19 = ic l) (h60 : l ≤ 60) (hpl : p ≤ l) : Mt (n0, S0) (d + 3) 230 [.ref (n0 + 292)] (hp n0 G (psR m p b), N, z) = wdO n0 G m b N z (wdF (ri m 300) l p 11 0 0) := by
  rw [NModel_word]
  simp (disch := first | assumption | (show (_ : Nat) < _; omega) | (show (_ : Nat) ≠ _; omega) | (show (_ : Nat) ≤ _; omega) | exact Or.inl rfl | exact Or.inr rfl) only [hG0, hG1, hG2, hF0, hF1, hA0, hA1, xL, xC, icL, Option.bind_some, Nat.le_add_right, Nat.le_refl, if_true, if_false, and_self, true_and, and_true, or_false, false_or, or_true, true_or, and_false, false_and, not_true_eq_false, not_false_eq_true, Nat.reduceAdd, Nat.reduceLeDiff, Nat.reduceLT, Option.toList_some, Option.toList_none, List.cons_append, List.nil_append, callK_ret, callR_ret, callK_thr, decide_true, Bool.true_and, xNr, bI0, bIT, bIF, ne_eq, Classical.not_not, not_false_eq_true, false_or, List.length_nil, icM, ic_lt, ic_eq, le_nl, ↓reduceIte, Nat.lt_irrefl, ri_ws, ri_wn, ri_as, ri_an, upd_s, upd_n, rp_wi, rp_wa, rl_wi, rl_wa, rl_wp, rl_wpa, rl_wl, rp_wl, ri_wl, rp_wd, ri_wd, in_rng, Int32.lt_irrefl, Nat.not_lt_zero, pk_nc, Nat.reduceEqDiff, Nat.succ_ne_self, Nat.one_ne_zero, Nat.add_left_cancel_iff, ri_wpa, ri_wp, QModel_word_0, QModel_word_1, QModel_word_2]
  exact m_wordLoop hl h60 hpl 11 0 0 _ rfl (by omega) N z
end M22
