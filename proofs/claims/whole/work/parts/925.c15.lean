/-! the class's Program: parse; expanded by wip/whole/px.py out of wip/whole/c15.src -/
section C15
variable {n0 N z d : Nat} {S0 : Nat → Value} {G : sH} {m : mm}
abbrev kcI (i : Nat) : Nat := 272 + 2 * i
theorem kd_cm {i : Nat} (hi : i < 9) : kd (272 + 2 * i) = 16 ∧ kd (272 + 2 * i + 1) = 5 := by
  rcases (show i = 0 ∨ i = 1 ∨ i = 2 ∨ i = 3 ∨ i = 4 ∨ i = 5 ∨ i = 6 ∨ i = 7 ∨ i = 8 by omega) with rfl | rfl | rfl | rfl | rfl | rfl | rfl | rfl | rfl <;> exact ⟨rfl, rfl⟩
theorem atM_wp (p k i v : Nat) : wp (atM m p) k i v = atM (wp m k i v) p := rfl
theorem stM_self {k p : Nat} (h : ri m 269 2 = ic p) : stM m k (ri m k) p = m := by
  unfold stM
  rw [wa_self]
  exact atM_id h
/-- the memory behind a command read (r.1: the verb) -/
def cmM2 (m : mm) (kc : Nat) (vv : Nat → Nat) (r : Option Nat × Nat × (Nat → Int32)) : mm := match r.1 with
  | some j => wp (stM m (kc + 1) r.2.2 r.2.1) kc 0 (vv j)
  | none => stM m (kc + 1) r.2.2 r.2.1
theorem cmO_eq {kc : Nat} {vv : Nat → Nat} {r : Option Nat × Nat × (Nat → Int32)} : cmO n0 G m kc N z vv r = oI n0 G (cmM2 m kc vv r) N z (if r.1 = none then ic 0 else ic 1) := by
  obtain ⟨o, p, a⟩ := r
  cases o with
  | none => rfl
  | some j => rfl
theorem c_readCm {v : Nat} {vv ss bb ln : Nat → Nat} {sh : Nat → Nat → Nat} (hv : isVerbs n0 G S0 v vv ss bb ln sh) {l i : Nat} (hi : i < 9) (hl : ri m 269 1 = ic l) (h60 : l ≤ 60) {p : Nat} (hp0 : ri m 269 2 = ic p) (hpl : p ≤ l) : Mt (n0, S0) (d + 6) 33 [.ref (n0 + 269), .ref (n0 + (272 + 2 * i))] (hp n0 G m, N, z) = oI n0 G (cmM2 m (272 + 2 * i) vv (rdCm (ri m 270) l ln sh p 11 0 p (ri m (272 + 2 * i + 1)))) N z (if (rdCm (ri m 270) l ln sh p 11 0 p (ri m (272 + 2 * i + 1))).1 = none then ic 0 else ic 1) := by
  have h := c_readCommand (n0 := n0) (S0 := S0) (G := G) (m := m) (d := d) (N := N) (z := z) (a := ri m (272 + 2 * i + 1)) hv hl h60 (kd_cm hi).1 (kd_cm hi).2 (by omega) (by omega) hpl
  rw [stM_self hp0, cmO_eq] at h
  exact h
theorem rdCm_le {t : Nat → Int32} {l p : Nat} {ln : Nat → Nat} {sh : Nat → Nat → Nat} (hpl : p ≤ l) : ∀ k j far a, p ≤ far → far ≤ l → p ≤ (rdCm t l ln sh p k j far a).2.1 ∧ (rdCm t l ln sh p k j far a).2.1 ≤ l := by
  intro k
  induction k with
  | zero => intro j far a h1 h2; exact ⟨h1, h2⟩
  | succ k ih =>
    intro j far a h1 h2
    have hs := rdSh_le (t := t) (l := l) (f := sh j) (ln j) 0 0 p a hpl
    unfold rdCm
    split
    · exact hs
    · split
      · exact ih _ _ _ hs.1 hs.2
      · exact ih _ _ _ h1 h2
/-- a program read from command i on, k commands at most: the error's place or none, the memory -/
def rdPr (vv ln : Nat → Nat) (sh : Nat → Nat → Nat) (l : Nat) : Nat → Nat → Nat → mm → Int32 × mm
  | 0, _, p, m => (ic p, m)
  | k + 1, i, p, m => match rdCm (ri m 270) l ln sh p 11 0 p (ri m (272 + 2 * i + 1)) with
    | (none, q, a) => (ic q, cmM2 m (272 + 2 * i) vv (none, q, a))
    | (some j, q, a) => if q < l then (if ri m 270 q = ic 59 then rdPr vv ln sh l k (i + 1) (q + 1) (atM (wi (cmM2 m (272 + 2 * i) vv (some j, q, a)) 269 4 (ic (i + 1))) (q + 1)) else (ic q, wi (cmM2 m (272 + 2 * i) vv (some j, q, a)) 269 4 (ic (i + 1)))) else (-ic 1, wi (cmM2 m (272 + 2 * i) vv (some j, q, a)) 269 4 (ic (i + 1)))
theorem cm_f {kc : Nat} {vv : Nat → Nat} {r : Option Nat × Nat × (Nat → Int32)} : ri (cmM2 m kc vv r) = ri (stM m (kc + 1) r.2.2 r.2.1) := by
  unfold cmM2
  split <;> rfl
theorem c_parseLoop {v : Nat} {vv ss bb ln : Nat → Nat} {sh : Nat → Nat → Nat} (hv : isVerbs n0 G S0 v vv ss bb ln sh) {l : Nat} (h60 : l ≤ 60) : ∀ k i p (m : mm), i + k = 9 → ri m 269 1 = ic l → ri m 269 2 = ic p → p ≤ l → Rx (n0, S0) (d + 6) 32 12 [some (.ref (n0 + 269)), some (.int (ic i))] [] (hp n0 G m, N, z) = oI n0 G (rdPr vv ln sh l k i p m).2 N z (rdPr vv ln sh l k i p m).1 := by
  have k269 : kd 269 = 13 := rfl
  have k271 : kd 271 = 15 := rfl
  intro k
  induction k with
  | zero =>
    intro i p m hi hl hp0 hpl
    obtain rfl : i = 9 := by omega
    rw [HProgram_parse_12, rdPr]
    simp (disch := first | assumption | (show (_ : Nat) < _; omega) | (show (_ : Nat) ≠ _; omega) | (show (_ : Nat) ≤ _; omega) | exact Or.inl rfl | exact Or.inr rfl) only [hG0, hG1, hG2, hF0, hF1, hA0, hA1, xL, xC, icL, Option.bind_some, Nat.le_add_right, Nat.le_refl, if_true, if_false, and_self, true_and, and_true, or_false, false_or, or_true, true_or, and_false, false_and, not_true_eq_false, not_false_eq_true, Nat.reduceAdd, Nat.reduceLeDiff, Nat.reduceLT, Option.toList_some, Option.toList_none, List.cons_append, List.nil_append, callK_ret, callR_ret, callK_thr, decide_true, Bool.true_and, xNr, bI0, bIT, bIF, ne_eq, Classical.not_not, not_false_eq_true, false_or, List.length_nil, icM, ic_lt, ic_eq, le_nl, ↓reduceIte, Nat.lt_irrefl, ri_ws, ri_wn, ri_as, ri_an, upd_s, upd_n, rp_wi, rp_wa, rl_wi, rl_wa, rl_wp, rl_wpa, rl_wl, rp_wl, ri_wl, rp_wd, ri_wd, in_rng, Int32.lt_irrefl, Nat.not_lt_zero, pk_nc, Nat.reduceEqDiff, Nat.succ_ne_self, Nat.one_ne_zero, Nat.add_left_cancel_iff, ri_wpa, ri_wp, QProgram_parse_0, QProgram_parse_1, hp0]
  | succ k ih =>
    intro i p m hi hl hp0 hpl
    have hi9 : i < 9 := by omega
    have hc := fun (d N z : Nat) => c_readCm (n0 := n0) (S0 := S0) (G := G) (m := m) (d := d) (N := N) (z := z) hv hi9 hl h60 hp0 hpl
    have hle := rdCm_le (t := ri m 270) (ln := ln) (sh := sh) hpl 11 0 p (ri m (272 + 2 * i + 1)) (Nat.le_refl _) hpl
    rw [HProgram_parse_12, rdPr]
    generalize rdCm (ri m 270) l ln sh p 11 0 p (ri m (272 + 2 * i + 1)) = r at hc hle ⊢
    obtain ⟨o, q, a⟩ := r
    dsimp only at hc hle ⊢
    have f1 : ri (cmM2 m (272 + 2 * i) vv (o, q, a)) 269 = upd (ri m 269) 2 (ic q) := by
      rw [cm_f]
      show ri (atM (wa m _ a) q) 269 = _
      unfold atM
      rw [ri_ws, ri_an _ _ (by omega)]
    have f2 : ri (cmM2 m (272 + 2 * i) vv (o, q, a)) 270 = ri m 270 := by
      rw [cm_f]
      show ri (atM (wa m _ a) q) 270 = _
      rw [atM_t (by decide), ri_an _ _ (by omega)]
    cases o with
    | none =>
      try dsimp only
      generalize cmM2 m (272 + 2 * i) vv (none, q, a) = M at hc f1 f2 ⊢
      simp only [if_true] at hc ⊢
      simp (disch := first | assumption | (show (_ : Nat) < _; omega) | (show (_ : Nat) ≠ _; omega) | (show (_ : Nat) ≤ _; omega) | exact Or.inl rfl | exact Or.inr rfl) only [hG0, hG1, hG2, hF0, hF1, hA0, hA1, xL, xC, icL, Option.bind_some, Nat.le_add_right, Nat.le_refl, if_true, if_false, and_self, true_and, and_true, or_false, false_or, or_true, true_or, and_false, false_and, not_true_eq_false, not_false_eq_true, Nat.reduceAdd, Nat.reduceLeDiff, Nat.reduceLT, Option.toList_some, Option.toList_none, List.cons_append, List.nil_append, callK_ret, callR_ret, callK_thr, decide_true, Bool.true_and, xNr, bI0, bIT, bIF, ne_eq, Classical.not_not, not_false_eq_true, false_or, List.length_nil, icM, ic_lt, ic_eq, le_nl, ↓reduceIte, Nat.lt_irrefl, ri_ws, ri_wn, ri_as, ri_an, upd_s, upd_n, rp_wi, rp_wa, rl_wi, rl_wa, rl_wp, rl_wpa, rl_wl, rp_wl, ri_wl, rp_wd, ri_wd, in_rng, Int32.lt_irrefl, Nat.not_lt_zero, pk_nc, Nat.reduceEqDiff, Nat.succ_ne_self, Nat.one_ne_zero, Nat.add_left_cancel_iff, ri_wpa, ri_wp, QProgram_parse_0, QProgram_parse_1, hi9, hc, f1]
    | some j =>
      try dsimp only
      generalize cmM2 m (272 + 2 * i) vv (some j, q, a) = M at hc f1 f2 ⊢
      have e9 : ((some j : Option Nat) = none) = False := eq_false (fun h => nomatch h)
      simp only [e9, if_false] at hc ⊢
      have hq60 : q ≤ 60 := by omega
      by_cases h1 : q < l
      · rw [if_pos h1]
        have g1 : ri (wi M 269 4 (ic (i + 1))) 269 1 = ic l := by rw [ri_ws, upd_n _ _ (by decide), f1, upd_n _ _ (by decide)]; exact hl
        have g2 : ri (wi M 269 4 (ic (i + 1))) 269 2 = ic q := by rw [ri_ws, upd_n _ _ (by decide), f1, upd_s]
        have g3 : ri (wi M 269 4 (ic (i + 1))) 270 = ri m 270 := by rw [ri_wn _ _ _ (by decide), f2]
        have hrs := fun (d N z : Nat) => c_readSign (n0 := n0) (S0 := S0) (G := G) (m := wi M 269 4 (ic (i + 1))) (d := d) (N := N) (z := z) g1 h60 g2 (by omega) (c := ic 59)
        rw [g3] at hrs
        by_cases h2 : ri m 270 q = ic 59
        · rw [if_pos h2]
          simp only [h1, h2, and_self, if_true] at hrs
          have e := ih (i + 1) (q + 1) (atM (wi M 269 4 (ic (i + 1))) (q + 1)) (by omega) (by rw [atM_l]; exact g1) atM_p (by omega)
          simp (disch := first | assumption | (show (_ : Nat) < _; omega) | (show (_ : Nat) ≠ _; omega) | (show (_ : Nat) ≤ _; omega) | exact Or.inl rfl | exact Or.inr rfl) only [hG0, hG1, hG2, hF0, hF1, hA0, hA1, xL, xC, icL, Option.bind_some, Nat.le_add_right, Nat.le_refl, if_true, if_false, and_self, true_and, and_true, or_false, false_or, or_true, true_or, and_false, false_and, not_true_eq_false, not_false_eq_true, Nat.reduceAdd, Nat.reduceLeDiff, Nat.reduceLT, Option.toList_some, Option.toList_none, List.cons_append, List.nil_append, callK_ret, callR_ret, callK_thr, decide_true, Bool.true_and, xNr, bI0, bIT, bIF, ne_eq, Classical.not_not, not_false_eq_true, false_or, List.length_nil, icM, ic_lt, ic_eq, le_nl, ↓reduceIte, Nat.lt_irrefl, ri_ws, ri_wn, ri_as, ri_an, upd_s, upd_n, rp_wi, rp_wa, rl_wi, rl_wa, rl_wp, rl_wpa, rl_wl, rp_wl, ri_wl, rp_wd, ri_wd, in_rng, Int32.lt_irrefl, Nat.not_lt_zero, pk_nc, Nat.reduceEqDiff, Nat.succ_ne_self, Nat.one_ne_zero, Nat.add_left_cancel_iff, ri_wpa, ri_wp, QProgram_parse_0, QProgram_parse_1, hi9, hc, f1, hl, h1, ic_add, hrs]
          exact e
        · rw [if_neg h2]
          simp only [h2, and_false, if_false] at hrs
          simp (disch := first | assumption | (show (_ : Nat) < _; omega) | (show (_ : Nat) ≠ _; omega) | (show (_ : Nat) ≤ _; omega) | exact Or.inl rfl | exact Or.inr rfl) only [hG0, hG1, hG2, hF0, hF1, hA0, hA1, xL, xC, icL, Option.bind_some, Nat.le_add_right, Nat.le_refl, if_true, if_false, and_self, true_and, and_true, or_false, false_or, or_true, true_or, and_false, false_and, not_true_eq_false, not_false_eq_true, Nat.reduceAdd, Nat.reduceLeDiff, Nat.reduceLT, Option.toList_some, Option.toList_none, List.cons_append, List.nil_append, callK_ret, callR_ret, callK_thr, decide_true, Bool.true_and, xNr, bI0, bIT, bIF, ne_eq, Classical.not_not, not_false_eq_true, false_or, List.length_nil, icM, ic_lt, ic_eq, le_nl, ↓reduceIte, Nat.lt_irrefl, ri_ws, ri_wn, ri_as, ri_an, upd_s, upd_n, rp_wi, rp_wa, rl_wi, rl_wa, rl_wp, rl_wpa, rl_wl, rp_wl, ri_wl, rp_wd, ri_wd, in_rng, Int32.lt_irrefl, Nat.not_lt_zero, pk_nc, Nat.reduceEqDiff, Nat.succ_ne_self, Nat.one_ne_zero, Nat.add_left_cancel_iff, ri_wpa, ri_wp, QProgram_parse_0, QProgram_parse_1, hi9, hc, f1, hl, h1, ic_add, hrs]
      · rw [if_neg h1]
        simp (disch := first | assumption | (show (_ : Nat) < _; omega) | (show (_ : Nat) ≠ _; omega) | (show (_ : Nat) ≤ _; omega) | exact Or.inl rfl | exact Or.inr rfl) only [hG0, hG1, hG2, hF0, hF1, hA0, hA1, xL, xC, icL, Option.bind_some, Nat.le_add_right, Nat.le_refl, if_true, if_false, and_self, true_and, and_true, or_false, false_or, or_true, true_or, and_false, false_and, not_true_eq_false, not_false_eq_true, Nat.reduceAdd, Nat.reduceLeDiff, Nat.reduceLT, Option.toList_some, Option.toList_none, List.cons_append, List.nil_append, callK_ret, callR_ret, callK_thr, decide_true, Bool.true_and, xNr, bI0, bIT, bIF, ne_eq, Classical.not_not, not_false_eq_true, false_or, List.length_nil, icM, ic_lt, ic_eq, le_nl, ↓reduceIte, Nat.lt_irrefl, ri_ws, ri_wn, ri_as, ri_an, upd_s, upd_n, rp_wi, rp_wa, rl_wi, rl_wa, rl_wp, rl_wpa, rl_wl, rp_wl, ri_wl, rp_wd, ri_wd, in_rng, Int32.lt_irrefl, Nat.not_lt_zero, pk_nc, Nat.reduceEqDiff, Nat.succ_ne_self, Nat.one_ne_zero, Nat.add_left_cancel_iff, ri_wpa, ri_wp, QProgram_parse_0, QProgram_parse_1, hi9, hc, f1, hl, h1, ic_add]
theorem c_parse {v : Nat} {vv ss bb ln : Nat → Nat} {sh : Nat → Nat → Nat} (hv : isVerbs n0 G S0 v vv ss bb ln sh) {l : Nat} (h60 : l ≤ 60) (hl : ri m 269 1 = ic l) : Mt (n0, S0) (d + 7) 32 [.ref (n0 + 269)] (hp n0 G m, N, z) = oI n0 G (rdPr vv ln sh l 9 0 0 (wi (wi m 269 2 (ic 0)) 269 4 (ic 0))).2 N z (rdPr vv ln sh l 9 0 0 (wi (wi m 269 2 (ic 0)) 269 4 (ic 0))).1 := by
  have k269 : kd 269 = 13 := rfl
  rw [NProgram_parse]
  simp (disch := first | assumption | (show (_ : Nat) < _; omega) | (show (_ : Nat) ≠ _; omega) | (show (_ : Nat) ≤ _; omega) | exact Or.inl rfl | exact Or.inr rfl) only [hG0, hG1, hG2, hF0, hF1, hA0, hA1, xL, xC, icL, Option.bind_some, Nat.le_add_right, Nat.le_refl, if_true, if_false, and_self, true_and, and_true, or_false, false_or, or_true, true_or, and_false, false_and, not_true_eq_false, not_false_eq_true, Nat.reduceAdd, Nat.reduceLeDiff, Nat.reduceLT, Option.toList_some, Option.toList_none, List.cons_append, List.nil_append, callK_ret, callR_ret, callK_thr, decide_true, Bool.true_and, xNr, bI0, bIT, bIF, ne_eq, Classical.not_not, not_false_eq_true, false_or, List.length_nil, icM, ic_lt, ic_eq, le_nl, ↓reduceIte, Nat.lt_irrefl, ri_ws, ri_wn, ri_as, ri_an, upd_s, upd_n, rp_wi, rp_wa, rl_wi, rl_wa, rl_wp, rl_wpa, rl_wl, rp_wl, ri_wl, rp_wd, ri_wd, in_rng, Int32.lt_irrefl, Nat.not_lt_zero, pk_nc, Nat.reduceEqDiff, Nat.succ_ne_self, Nat.one_ne_zero, Nat.add_left_cancel_iff, ri_wpa, ri_wp, QProgram_parse_0, QProgram_parse_1]
  exact c_parseLoop hv h60 9 0 0 _ (by omega) (by rw [ri_ws, upd_n _ _ (by decide), ri_ws, upd_n _ _ (by decide)]; exact hl) (by rw [ri_ws, upd_n _ _ (by decide), ri_ws, upd_s]) (by omega)
end C15
