/-! the reference's parse; expanded by wip/whole/px.py out of wip/whole/m26.src -/
theorem paF_o {t : Nat → Int32} {l : Nat} : ∀ f (m : mm) c (s : rS), (∀ i, i ≠ 21 → ri (paF t l f m c s).1 292 i = ri m 292 i) ∧ (s.2.1 ≤ l → (paF t l f m c s).2.2.2.1 ≤ l) := by
  intro f
  induction f with
  | zero => intro m c s; exact ⟨fun _ _ => rfl, fun h => h⟩
  | succ f ih =>
    intro m c s
    unfold paF
    split
    · rename_i h
      have hpl : s.2.2 = false ∧ s.2.1 < l := by
        unfold mkF at h
        by_cases h9 : s.2.2 = false ∧ s.2.1 < l
        · exact h9
        · rw [if_neg h9] at h; exact absurd h (by decide)
      have hi := ih (if (cmS t l c (s.1, s.2.1 + 1, s.2.2)).2.2 then m else cmB m c (cmW t l (s.1, s.2.1 + 1, s.2.2)).1) (if (cmS t l c (s.1, s.2.1 + 1, s.2.2)).2.2 then c else c + 1) (cmS t l c (s.1, s.2.1 + 1, s.2.2))
      refine ⟨fun i hi2 => (hi.1 i hi2).trans ?_, fun hs => hi.2 (cmS_g (c := c) (s := (s.1, s.2.1 + 1, s.2.2)) hpl.2).2.1⟩
      split
      · rfl
      · exact (cmB_o m c _).2.1 i hi2
    · exact ⟨fun _ _ => rfl, fun h => h⟩
/-- the reference before its first command -/
def paA (m : mm) (l : Nat) : mm := wi (wi (wi m 292 19 (ic l)) 292 18 (ic 0)) 292 21 (ic 0)
/-- the whole program read -/
def paR (m : mm) (l : Nat) : mm × Nat × rS := paF (ri m 300) l 61 (if (cmS (ri m 300) l 0 (ri m 302, 0, false)).2.2 then paA m l else cmB (paA m l) 0 (cmW (ri m 300) l (ri m 302, 0, false)).1) (if (cmS (ri m 300) l 0 (ri m 302, 0, false)).2.2 then 0 else 1) (cmS (ri m 300) l 0 (ri m 302, 0, false))
section M26
variable {n0 N z d : Nat} {S0 : Nat → Value} {G : sH} {m : mm}
theorem paA_rs {l : Nat} : wi (wi (wi (wi (wi m 292 19 (ic l)) 292 18 (ic 0)) 292 20 (ic 0)) 292 21 (ic 0)) 292 22 (ic 0) = rsM (paA m l) (ri m 302, 0, false) := by
  refine mm_ext (fun q => ?_) rfl rfl rfl
  unfold rsM paA psR wi
  simp only [ri_wa]
  by_cases h3 : q = 292
  · subst h3
    simp
    funext j
    unfold upd bw
    by_cases h4 : j = 20 <;> by_cases h5 : j = 22 <;> by_cases h6 : j = 21 <;> by_cases h7 : j = 18 <;> by_cases h8 : j = 19 <;> simp [h4, h5, h6, h7, h8]
    all_goals omega
  · by_cases h4 : q = 302
    · subst h4; simp
    · simp [h3, h4]
theorem m_parse {l : Nat} (hl : ri m 292 18 = ic l) (h60 : l ≤ 60) : Mt (n0, S0) (d + 6) 228 [.ref (n0 + 292)] (hp n0 G m, N, z) = some (.inl none, (hp n0 G (rsM (paR m l).1 ((paR m l).2.2.1, (paR m l).2.2.2.1, (paR m l).2.2.2.2 || decide ((paR m l).2.2.2.1 < l))), N, z)) := by
  have k292 : kd 292 = 18 := rfl
  have w0 := paA_rs (m := m) (l := l)
  have a300 : ri (paA m l) 300 = ri m 300 := by unfold paA; rw [ri_wn _ _ _ (by decide), ri_wn _ _ _ (by decide), ri_wn _ _ _ (by decide)]
  have a19 : ri (paA m l) 292 19 = ic l := by unfold paA; rw [ri_ws, upd_n _ _ (by decide), ri_ws, upd_n _ _ (by decide), ri_ws, upd_s]
  have a21 : ri (paA m l) 292 21 = ic 0 := by unfold paA; rw [ri_ws, upd_s]
  have hcm := m_command (n0 := n0) (S0 := S0) (G := G) (d := d) (N := N) (z := z) a19 h60 a21 (by omega) (s := (ri m 302, 0, false)) (Nat.zero_le _)
  rw [a300] at hcm
  have hg := cmS_g (t := ri m 300) (l := l) (c := 0) (s := (ri m 302, 0, false)) (Nat.zero_le _)
  obtain ⟨b1, b2, b3⟩ := cmB_o (paA m l) 0 (cmW (ri m 300) l (ri m 302, 0, false)).1
  have hlp := m_paLoop (n0 := n0) (S0 := S0) (G := G) (d := d) (t := ri m 300) h60 61 (if (cmS (ri m 300) l 0 (ri m 302, 0, false)).2.2 then paA m l else cmB (paA m l) 0 (cmW (ri m 300) l (ri m 302, 0, false)).1) (if (cmS (ri m 300) l 0 (ri m 302, 0, false)).2.2 then 0 else 1) (cmS (ri m 300) l 0 (ri m 302, 0, false)) (by split; exact a300; exact b1.trans a300) (by split; exact a19; exact (b2 19 (by decide)).trans a19) (by split; exact a21; exact b3) hg.2.1 (by omega) (fun e => by rw [e, if_neg (by decide)]; have h8 : 0 + 4 ≤ (cmS (ri m 300) l 0 (ri m 302, 0, false)).2.1 := (hg.2.2 e).2; omega) N z
  have ho := paF_o (t := ri m 300) (l := l) 61 (if (cmS (ri m 300) l 0 (ri m 302, 0, false)).2.2 then paA m l else cmB (paA m l) 0 (cmW (ri m 300) l (ri m 302, 0, false)).1) (if (cmS (ri m 300) l 0 (ri m 302, 0, false)).2.2 then 0 else 1) (cmS (ri m 300) l 0 (ri m 302, 0, false))
  have hm19 : ri (if (cmS (ri m 300) l 0 (ri m 302, 0, false)).2.2 then paA m l else cmB (paA m l) 0 (cmW (ri m 300) l (ri m 302, 0, false)).1) 292 19 = ic l := by split; exact a19; exact (b2 19 (by decide)).trans a19
  have hR : paF (ri m 300) l 61 (if (cmS (ri m 300) l 0 (ri m 302, 0, false)).2.2 then paA m l else cmB (paA m l) 0 (cmW (ri m 300) l (ri m 302, 0, false)).1) (if (cmS (ri m 300) l 0 (ri m 302, 0, false)).2.2 then 0 else 1) (cmS (ri m 300) l 0 (ri m 302, 0, false)) = paR m l := rfl
  rw [hR] at hlp ho
  have r19 : ri (paR m l).1 292 19 = ic l := (ho.1 19 (by decide)).trans hm19
  have rp1 := ho.2 hg.2.1
  generalize paR m l = R at *
  obtain ⟨m2, c2, s2⟩ := R
  dsimp only at *
  have g19 : ri (rsM m2 s2) 292 19 = ic l := (rs_f (by decide) (by decide)).trans r19
  have g20 : ri (rsM m2 s2) 292 20 = ic s2.2.1 := psR_20
  have g22 : ri (rsM m2 s2) 292 22 = bw s2.2.2 := psR_22
  have w1 : wi (rsM m2 s2) 292 22 (ic 1) = rsM m2 (s2.1, s2.2.1, true) := psR_w22 (c := true)
  have w2 : wi (rsM m2 s2) 292 22 (ic 0) = rsM m2 (s2.1, s2.2.1, false) := psR_w22 (c := false)
  rw [NModel_parse]
  simp (disch := first | assumption | (show (_ : Nat) < _; omega) | (show (_ : Nat) ≠ _; omega) | (show (_ : Nat) ≤ _; omega) | exact Or.inl rfl | exact Or.inr rfl) only [hG0, hG1, hG2, hF0, hF1, hA0, hA1, xL, xC, icL, Option.bind_some, Nat.le_add_right, Nat.le_refl, if_true, if_false, and_self, true_and, and_true, or_false, false_or, or_true, true_or, and_false, false_and, not_true_eq_false, not_false_eq_true, Nat.reduceAdd, Nat.reduceLeDiff, Nat.reduceLT, Option.toList_some, Option.toList_none, List.cons_append, List.nil_append, callK_ret, callR_ret, callK_thr, decide_true, Bool.true_and, xNr, bI0, bIT, bIF, ne_eq, Classical.not_not, not_false_eq_true, false_or, List.length_nil, icM, ic_lt, ic_eq, le_nl, ↓reduceIte, Nat.lt_irrefl, ri_ws, ri_wn, ri_as, ri_an, upd_s, upd_n, rp_wi, rp_wa, rl_wi, rl_wa, rl_wp, rl_wpa, rl_wl, rp_wl, ri_wl, rp_wd, ri_wd, in_rng, Int32.lt_irrefl, Nat.not_lt_zero, pk_nc, Nat.reduceEqDiff, Nat.succ_ne_self, Nat.one_ne_zero, Nat.add_left_cancel_iff, ri_wpa, ri_wp, QModel_parse_0, QModel_parse_1, QModel_parse_2, hl, w0, hcm]
  rw [hlp]
  generalize hMM : rsM m2 s2 = MM at *
  by_cases h : s2.2.1 < l
  · rw [decide_eq_true h]
    cases hb : s2.2.2 with
    | true =>
      have e : bw true = ic 1 := rfl
      rw [hb, e] at g22
      simp (disch := first | assumption | (show (_ : Nat) < _; omega) | (show (_ : Nat) ≠ _; omega) | (show (_ : Nat) ≤ _; omega) | exact Or.inl rfl | exact Or.inr rfl) only [hG0, hG1, hG2, hF0, hF1, hA0, hA1, xL, xC, icL, Option.bind_some, Nat.le_add_right, Nat.le_refl, if_true, if_false, and_self, true_and, and_true, or_false, false_or, or_true, true_or, and_false, false_and, not_true_eq_false, not_false_eq_true, Nat.reduceAdd, Nat.reduceLeDiff, Nat.reduceLT, Option.toList_some, Option.toList_none, List.cons_append, List.nil_append, callK_ret, callR_ret, callK_thr, decide_true, Bool.true_and, xNr, bI0, bIT, bIF, ne_eq, Classical.not_not, not_false_eq_true, false_or, List.length_nil, icM, ic_lt, ic_eq, le_nl, ↓reduceIte, Nat.lt_irrefl, ri_ws, ri_wn, ri_as, ri_an, upd_s, upd_n, rp_wi, rp_wa, rl_wi, rl_wa, rl_wp, rl_wpa, rl_wl, rp_wl, ri_wl, rp_wd, ri_wd, in_rng, Int32.lt_irrefl, Nat.not_lt_zero, pk_nc, Nat.reduceEqDiff, Nat.succ_ne_self, Nat.one_ne_zero, Nat.add_left_cancel_iff, ri_wpa, ri_wp, QModel_parse_0, QModel_parse_1, QModel_parse_2, g22, g20, g19, h, or4, w1, Bool.or_true]
    | false =>
      have e : bw false = ic 0 := rfl
      rw [hb, e] at g22
      simp (disch := first | assumption | (show (_ : Nat) < _; omega) | (show (_ : Nat) ≠ _; omega) | (show (_ : Nat) ≤ _; omega) | exact Or.inl rfl | exact Or.inr rfl) only [hG0, hG1, hG2, hF0, hF1, hA0, hA1, xL, xC, icL, Option.bind_some, Nat.le_add_right, Nat.le_refl, if_true, if_false, and_self, true_and, and_true, or_false, false_or, or_true, true_or, and_false, false_and, not_true_eq_false, not_false_eq_true, Nat.reduceAdd, Nat.reduceLeDiff, Nat.reduceLT, Option.toList_some, Option.toList_none, List.cons_append, List.nil_append, callK_ret, callR_ret, callK_thr, decide_true, Bool.true_and, xNr, bI0, bIT, bIF, ne_eq, Classical.not_not, not_false_eq_true, false_or, List.length_nil, icM, ic_lt, ic_eq, le_nl, ↓reduceIte, Nat.lt_irrefl, ri_ws, ri_wn, ri_as, ri_an, upd_s, upd_n, rp_wi, rp_wa, rl_wi, rl_wa, rl_wp, rl_wpa, rl_wl, rp_wl, ri_wl, rp_wd, ri_wd, in_rng, Int32.lt_irrefl, Nat.not_lt_zero, pk_nc, Nat.reduceEqDiff, Nat.succ_ne_self, Nat.one_ne_zero, Nat.add_left_cancel_iff, ri_wpa, ri_wp, QModel_parse_0, QModel_parse_1, QModel_parse_2, g22, g20, g19, h, or4, w1, Bool.or_true]
  · rw [decide_eq_false h]
    cases hb : s2.2.2 with
    | true =>
      have e : bw true = ic 1 := rfl
      rw [hb, e] at g22
      simp (disch := first | assumption | (show (_ : Nat) < _; omega) | (show (_ : Nat) ≠ _; omega) | (show (_ : Nat) ≤ _; omega) | exact Or.inl rfl | exact Or.inr rfl) only [hG0, hG1, hG2, hF0, hF1, hA0, hA1, xL, xC, icL, Option.bind_some, Nat.le_add_right, Nat.le_refl, if_true, if_false, and_self, true_and, and_true, or_false, false_or, or_true, true_or, and_false, false_and, not_true_eq_false, not_false_eq_true, Nat.reduceAdd, Nat.reduceLeDiff, Nat.reduceLT, Option.toList_some, Option.toList_none, List.cons_append, List.nil_append, callK_ret, callR_ret, callK_thr, decide_true, Bool.true_and, xNr, bI0, bIT, bIF, ne_eq, Classical.not_not, not_false_eq_true, false_or, List.length_nil, icM, ic_lt, ic_eq, le_nl, ↓reduceIte, Nat.lt_irrefl, ri_ws, ri_wn, ri_as, ri_an, upd_s, upd_n, rp_wi, rp_wa, rl_wi, rl_wa, rl_wp, rl_wpa, rl_wl, rp_wl, ri_wl, rp_wd, ri_wd, in_rng, Int32.lt_irrefl, Nat.not_lt_zero, pk_nc, Nat.reduceEqDiff, Nat.succ_ne_self, Nat.one_ne_zero, Nat.add_left_cancel_iff, ri_wpa, ri_wp, QModel_parse_0, QModel_parse_1, QModel_parse_2, g22, g20, g19, h, or4, w1, Bool.or_false]
    | false =>
      have e : bw false = ic 0 := rfl
      rw [hb, e] at g22
      simp (disch := first | assumption | (show (_ : Nat) < _; omega) | (show (_ : Nat) ≠ _; omega) | (show (_ : Nat) ≤ _; omega) | exact Or.inl rfl | exact Or.inr rfl) only [hG0, hG1, hG2, hF0, hF1, hA0, hA1, xL, xC, icL, Option.bind_some, Nat.le_add_right, Nat.le_refl, if_true, if_false, and_self, true_and, and_true, or_false, false_or, or_true, true_or, and_false, false_and, not_true_eq_false, not_false_eq_true, Nat.reduceAdd, Nat.reduceLeDiff, Nat.reduceLT, Option.toList_some, Option.toList_none, List.cons_append, List.nil_append, callK_ret, callR_ret, callK_thr, decide_true, Bool.true_and, xNr, bI0, bIT, bIF, ne_eq, Classical.not_not, not_false_eq_true, false_or, List.length_nil, icM, ic_lt, ic_eq, le_nl, ↓reduceIte, Nat.lt_irrefl, ri_ws, ri_wn, ri_as, ri_an, upd_s, upd_n, rp_wi, rp_wa, rl_wi, rl_wa, rl_wp, rl_wpa, rl_wl, rp_wl, ri_wl, rp_wd, ri_wd, in_rng, Int32.lt_irrefl, Nat.not_lt_zero, pk_nc, Nat.reduceEqDiff, Nat.succ_ne_self, Nat.one_ne_zero, Nat.add_left_cancel_iff, ri_wpa, ri_wp, QModel_parse_0, QModel_parse_1, QModel_parse_2, g22, g20, g19, h, or4, w2, Bool.or_false]
end M26
