/-! the reference's command read; expanded by wip/whole/px.py out of wip/whole/m24.src -/
theorem wdF_l {t : Nat → Int32} {l p : Nat} : ∀ f w lo, p + lo ≤ l → (wdF t l p f w lo).2 ≤ l := by
  intro f
  induction f with
  | zero => intro w lo h; exact h
  | succ f ih =>
    intro w lo h
    have hm := mtF_l t l p w 6 0 (by omega)
    unfold wdF
    split
    · exact hm
    · apply ih
      split
      · exact hm
      · exact h
theorem wdF_w {t : Nat → Int32} {l p : Nat} : ∀ f w lo k, (wdF t l p f w lo).1 = some k → k < w + f := by
  intro f
  induction f with
  | zero => intro w lo k h; cases h
  | succ f ih =>
    intro w lo k h
    unfold wdF at h
    split at h
    · cases h; omega
    · have := ih _ _ _ h; omega
/-- the word read: which, what is left -/
def cmW (t : Nat → Int32) (l : Nat) (s : rS) : Nat × rS := match (wdF t l s.2.1 11 0 0).1 with
  | some w => (w, (s.1, (wdF t l s.2.1 11 0 0).2, s.2.2))
  | none => (0, (s.1, (wdF t l s.2.1 11 0 0).2, true))
/-- the command read -/
def cmS (t : Nat → Int32) (l c : Nat) (s : rS) : rS := rdW t l c (cmW t l s).1 (opE t l 32 (cmW t l s).2)
/-- the commands' row with one more -/
def cmB (m : mm) (c k : Nat) : mm := wi (wi m 301 c (ic k)) 292 21 (ic (c + 1))
section M24
variable {n0 N z d : Nat} {S0 : Nat → Value} {G : sH} {m : mm}
theorem rs_cm {s : rS} {c k : Nat} : wi (wi (rsM m s) 301 c (ic k)) 292 21 (ic (c + 1)) = rsM (cmB m c k) s := by
  refine mm_ext (fun q => ?_) rfl rfl rfl
  unfold rsM cmB psR wi
  simp only [ri_wa]
  by_cases h3 : q = 292
  · subst h3
    simp
    funext j
    unfold upd
    by_cases h4 : j = 20 <;> by_cases h5 : j = 22 <;> by_cases h6 : j = 21 <;> simp [h4, h5, h6]
    all_goals omega
  · by_cases h4 : q = 302
    · subst h4; simp
    · by_cases h5 : q = 301
      · subst h5; simp
      · simp [h3, h4, h5]
theorem r_word {l : Nat} (hl : ri m 292 19 = ic l) (h60 : l ≤ 60) {s : rS} (hs : s.2.1 ≤ l) : Mt (n0, S0) (d + 3) 230 [.ref (n0 + 292)] (hp n0 G (rsM m s), N, z) = oI n0 G (rsM m (cmW (ri m 300) l s).2) N z (ic (cmW (ri m 300) l s).1) := by
  have h := m_word (n0 := n0) (S0 := S0) (G := G) (d := d) (N := N) (z := z) (m := wa m 302 s.1) (b := s.2.2) (l := l) (p := s.2.1) (by rw [ri_an _ _ (by decide)]; exact hl) h60 hs
  rw [ri_an _ _ (by decide)] at h
  refine Eq.trans h ?_
  unfold wdO cmW
  rcases (wdF (ri m 300) l s.2.1 11 0 0).1 with _ | w <;> rfl
theorem r_W {l c : Nat} (hl : ri m 292 19 = ic l) (h60 : l ≤ 60) (hc : ri m 292 21 = ic c) (h : 6 * c + 5 < 192) {s : rS} (hs : s.2.1 ≤ l) {k : Nat} (hk : k < 11) (h0 : ¬ k = 0) : Mt (n0, S0) (d + 4) 239 [.ref (n0 + 292), .int (ic k)] (hp n0 G (rsM m s), N, z) = some (.inl none, (hp n0 G (rsM m (rdW (ri m 300) l c k s)), N, z)) := by
  rcases (show k = 1 ∨ k = 2 ∨ k = 3 ∨ k = 4 ∨ k = 5 ∨ k = 6 ∨ k = 7 ∨ k = 8 ∨ k = 9 ∨ k = 10 by omega) with rfl | rfl | rfl | rfl | rfl | rfl | rfl | rfl | rfl | rfl
  · exact r_W1 hl h60 hc h hs
  · exact r_W2 hl h60 hc h hs
  · exact r_W3 hl h60 hc h hs
  · exact r_W4 hl h60 hc h hs
  · exact r_W5 hl h60 hc h hs
  · exact r_W6 hl h60 hc h hs
  · exact r_W7 hl h60 hc h hs
  · exact r_W8 hl h60 hc h hs
  · exact r_W9 hl h60 hc h hs
  · exact r_W10 hl h60 hc h hs
theorem cmW_l {t : Nat → Int32} {l : Nat} {s : rS} (hs : s.2.1 ≤ l) : (cmW t l s).2.2.1 ≤ l ∧ (cmW t l s).1 < 11 := by
  have h1 := wdF_l (t := t) (l := l) (p := s.2.1) 11 0 0 (by omega)
  have h2 := wdF_w (t := t) (l := l) (p := s.2.1) 11 0 0
  unfold cmW
  rcases hw : (wdF t l s.2.1 11 0 0).1 with _ | w
  · exact ⟨h1, by show 0 < 11; decide⟩
  · exact ⟨h1, by have := h2 w hw; show w < 11; omega⟩
theorem m_command {l c : Nat} (hl : ri m 292 19 = ic l) (h60 : l ≤ 60) (hc : ri m 292 21 = ic c) (hc2 : c ≤ 30) {s : rS} (hs : s.2.1 ≤ l) : Mt (n0, S0) (d + 5) 229 [.ref (n0 + 292)] (hp n0 G (rsM m s), N, z) = some (.inl none, (hp n0 G (rsM (if (cmS (ri m 300) l c s).2.2 then m else cmB m c (cmW (ri m 300) l s).1) (cmS (ri m 300) l c s)), N, z)) := by
  have k292 : kd 292 = 18 := rfl
  have k301 : kd 301 = 23 := rfl
  obtain ⟨q1, q2⟩ := cmW_l (t := ri m 300) hs
  have h1 := r_word (n0 := n0) (S0 := S0) (G := G) (d := d + 1) (N := N) (z := z) hl h60 hs
  have h2 := r_E (n0 := n0) (S0 := S0) (G := G) (d := d + 2) (N := N) (z := z) (ch := 32) hl h60 q1
  have q3 := opE_le (t := ri m 300) (ch := 32) (by omega) q1
  have h3 := fun (h0 : ¬ (cmW (ri m 300) l s).1 = 0) => r_W (n0 := n0) (S0 := S0) (G := G) (d := d) (N := N) (z := z) hl h60 hc (by omega) q3 q2 h0
  have h4 := r_W0 (n0 := n0) (S0 := S0) (G := G) (d := d) (N := N) (z := z) hl h60 hc (by omega) q3
  have hS : cmS (ri m 300) l c s = rdW (ri m 300) l c (cmW (ri m 300) l s).1 (opE (ri m 300) l 32 (cmW (ri m 300) l s).2) := rfl
  generalize (cmW (ri m 300) l s).1 = k at *
  generalize (cmW (ri m 300) l s).2 = s1 at *
  generalize opE (ri m 300) l 32 s1 = s2 at *
  have g22 : ri (rsM m (cmS (ri m 300) l c s)) 292 22 = bw (cmS (ri m 300) l c s).2.2 := psR_22
  have g21 : ri (rsM m (cmS (ri m 300) l c s)) 292 21 = ic c := (rs_f (by decide) (by decide)).trans hc
  have w1 : wi (wi (rsM m (cmS (ri m 300) l c s)) 301 c (ic k)) 292 21 (ic (c + 1)) = rsM (cmB m c k) (cmS (ri m 300) l c s) := rs_cm
  have g21b : ri (wi (rsM m (cmS (ri m 300) l c s)) 301 c (ic k)) 292 21 = ic c := by rw [ri_wn _ _ _ (by decide)]; exact g21
  have h5 : ∀ (h0 : ¬ k = 0), Mt (n0, S0) (d + 4) 239 [.ref (n0 + 292), .int (ic k)] (hp n0 G (rsM m s2), N, z) = some (.inl none, (hp n0 G (rsM m (cmS (ri m 300) l c s)), N, z)) := fun h0 => by rw [h3 h0, hS]
  have h6 : k = 0 → Mt (n0, S0) (d + 4) 235 [.ref (n0 + 292)] (hp n0 G (rsM m s2), N, z) = some (.inl none, (hp n0 G (rsM m (cmS (ri m 300) l c s)), N, z)) := fun h0 => by rw [h4, hS, h0]
  clear h3 h4 hS
  generalize cmS (ri m 300) l c s = s3 at *
  have hc3 : c < 32 := by omega
  rw [NModel_command]
  generalize hM3 : rsM m s3 = M3 at *
  generalize hM4 : wi M3 301 c (ic k) = M4 at *
  generalize hM2 : rsM m s2 = M2 at *
  generalize hM1 : rsM m s1 = M1 at *
  rcases hb : s3.2.2 with _ | _
  · rw [hb] at g22
    have e : bw false = ic 0 := rfl
    rw [e] at g22
    rw [if_neg (by decide)]
    by_cases h0 : k = 0
    · have h7 := h6 h0
      simp (disch := first | assumption | (show (_ : Nat) < _; omega) | (show (_ : Nat) ≠ _; omega) | (show (_ : Nat) ≤ _; omega) | exact Or.inl rfl | exact Or.inr rfl) only [hG0, hG1, hG2, hF0, hF1, hA0, hA1, xL, xC, icL, Option.bind_some, Nat.le_add_right, Nat.le_refl, if_true, if_false, and_self, true_and, and_true, or_false, false_or, or_true, true_or, and_false, false_and, not_true_eq_false, not_false_eq_true, Nat.reduceAdd, Nat.reduceLeDiff, Nat.reduceLT, Option.toList_some, Option.toList_none, List.cons_append, List.nil_append, callK_ret, callR_ret, callK_thr, decide_true, Bool.true_and, xNr, bI0, bIT, bIF, ne_eq, Classical.not_not, not_false_eq_true, false_or, List.length_nil, icM, ic_lt, ic_eq, le_nl, ↓reduceIte, Nat.lt_irrefl, ri_ws, ri_wn, ri_as, ri_an, upd_s, upd_n, rp_wi, rp_wa, rl_wi, rl_wa, rl_wp, rl_wpa, rl_wl, rp_wl, ri_wl, rp_wd, ri_wd, in_rng, Int32.lt_irrefl, Nat.not_lt_zero, pk_nc, Nat.reduceEqDiff, Nat.succ_ne_self, Nat.one_ne_zero, Nat.add_left_cancel_iff, ri_wpa, ri_wp, QModel_command_0, QModel_command_1, h1, h2, h0, h7, g22, g21, hc3]
      subst h0
      simp (disch := first | assumption | (show (_ : Nat) < _; omega) | (show (_ : Nat) ≠ _; omega) | (show (_ : Nat) ≤ _; omega) | exact Or.inl rfl | exact Or.inr rfl) only [hG0, hG1, hG2, hF0, hF1, hA0, hA1, xL, xC, icL, Option.bind_some, Nat.le_add_right, Nat.le_refl, if_true, if_false, and_self, true_and, and_true, or_false, false_or, or_true, true_or, and_false, false_and, not_true_eq_false, not_false_eq_true, Nat.reduceAdd, Nat.reduceLeDiff, Nat.reduceLT, Option.toList_some, Option.toList_none, List.cons_append, List.nil_append, callK_ret, callR_ret, callK_thr, decide_true, Bool.true_and, xNr, bI0, bIT, bIF, ne_eq, Classical.not_not, not_false_eq_true, false_or, List.length_nil, icM, ic_lt, ic_eq, le_nl, ↓reduceIte, Nat.lt_irrefl, ri_ws, ri_wn, ri_as, ri_an, upd_s, upd_n, rp_wi, rp_wa, rl_wi, rl_wa, rl_wp, rl_wpa, rl_wl, rp_wl, ri_wl, rp_wd, ri_wd, in_rng, Int32.lt_irrefl, Nat.not_lt_zero, pk_nc, Nat.reduceEqDiff, Nat.succ_ne_self, Nat.one_ne_zero, Nat.add_left_cancel_iff, ri_wpa, ri_wp, QModel_command_0, QModel_command_1, hM4, g21b, ic_add, w1]
    · have h7 := h5 h0
      simp (disch := first | assumption | (show (_ : Nat) < _; omega) | (show (_ : Nat) ≠ _; omega) | (show (_ : Nat) ≤ _; omega) | exact Or.inl rfl | exact Or.inr rfl) only [hG0, hG1, hG2, hF0, hF1, hA0, hA1, xL, xC, icL, Option.bind_some, Nat.le_add_right, Nat.le_refl, if_true, if_false, and_self, true_and, and_true, or_false, false_or, or_true, true_or, and_false, false_and, not_true_eq_false, not_false_eq_true, Nat.reduceAdd, Nat.reduceLeDiff, Nat.reduceLT, Option.toList_some, Option.toList_none, List.cons_append, List.nil_append, callK_ret, callR_ret, callK_thr, decide_true, Bool.true_and, xNr, bI0, bIT, bIF, ne_eq, Classical.not_not, not_false_eq_true, false_or, List.length_nil, icM, ic_lt, ic_eq, le_nl, ↓reduceIte, Nat.lt_irrefl, ri_ws, ri_wn, ri_as, ri_an, upd_s, upd_n, rp_wi, rp_wa, rl_wi, rl_wa, rl_wp, rl_wpa, rl_wl, rp_wl, ri_wl, rp_wd, ri_wd, in_rng, Int32.lt_irrefl, Nat.not_lt_zero, pk_nc, Nat.reduceEqDiff, Nat.succ_ne_self, Nat.one_ne_zero, Nat.add_left_cancel_iff, ri_wpa, ri_wp, QModel_command_0, QModel_command_1, h1, h2, h0, h7, g22, g21, hc3, hM4, g21b, ic_add, w1]
  · rw [hb] at g22
    have e : bw true = ic 1 := rfl
    rw [e] at g22
    rw [if_pos rfl, hM3]
    by_cases h0 : k = 0
    · have h7 := h6 h0
      simp (disch := first | assumption | (show (_ : Nat) < _; omega) | (show (_ : Nat) ≠ _; omega) | (show (_ : Nat) ≤ _; omega) | exact Or.inl rfl | exact Or.inr rfl) only [hG0, hG1, hG2, hF0, hF1, hA0, hA1, xL, xC, icL, Option.bind_some, Nat.le_add_right, Nat.le_refl, if_true, if_false, and_self, true_and, and_true, or_false, false_or, or_true, true_or, and_false, false_and, not_true_eq_false, not_false_eq_true, Nat.reduceAdd, Nat.reduceLeDiff, Nat.reduceLT, Option.toList_some, Option.toList_none, List.cons_append, List.nil_append, callK_ret, callR_ret, callK_thr, decide_true, Bool.true_and, xNr, bI0, bIT, bIF, ne_eq, Classical.not_not, not_false_eq_true, false_or, List.length_nil, icM, ic_lt, ic_eq, le_nl, ↓reduceIte, Nat.lt_irrefl, ri_ws, ri_wn, ri_as, ri_an, upd_s, upd_n, rp_wi, rp_wa, rl_wi, rl_wa, rl_wp, rl_wpa, rl_wl, rp_wl, ri_wl, rp_wd, ri_wd, in_rng, Int32.lt_irrefl, Nat.not_lt_zero, pk_nc, Nat.reduceEqDiff, Nat.succ_ne_self, Nat.one_ne_zero, Nat.add_left_cancel_iff, ri_wpa, ri_wp, QModel_command_0, QModel_command_1, h1, h2, h0, h7, g22]
    · have h7 := h5 h0
      simp (disch := first | assumption | (show (_ : Nat) < _; omega) | (show (_ : Nat) ≠ _; omega) | (show (_ : Nat) ≤ _; omega) | exact Or.inl rfl | exact Or.inr rfl) only [hG0, hG1, hG2, hF0, hF1, hA0, hA1, xL, xC, icL, Option.bind_some, Nat.le_add_right, Nat.le_refl, if_true, if_false, and_self, true_and, and_true, or_false, false_or, or_true, true_or, and_false, false_and, not_true_eq_false, not_false_eq_true, Nat.reduceAdd, Nat.reduceLeDiff, Nat.reduceLT, Option.toList_some, Option.toList_none, List.cons_append, List.nil_append, callK_ret, callR_ret, callK_thr, decide_true, Bool.true_and, xNr, bI0, bIT, bIF, ne_eq, Classical.not_not, not_false_eq_true, false_or, List.length_nil, icM, ic_lt, ic_eq, le_nl, ↓reduceIte, Nat.lt_irrefl, ri_ws, ri_wn, ri_as, ri_an, upd_s, upd_n, rp_wi, rp_wa, rl_wi, rl_wa, rl_wp, rl_wpa, rl_wl, rp_wl, ri_wl, rp_wd, ri_wd, in_rng, Int32.lt_irrefl, Nat.not_lt_zero, pk_nc, Nat.reduceEqDiff, Nat.succ_ne_self, Nat.one_ne_zero, Nat.add_left_cancel_iff, ri_wpa, ri_wp, QModel_command_0, QModel_command_1, h1, h2, h0, h7, g22]
end M24
