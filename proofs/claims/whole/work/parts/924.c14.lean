/-! the class's Program: shapes, commands, programs; expanded by wip/whole/px.py out of wip/whole/c14.src -/
section C14
variable {n0 N z d : Nat} {S0 : Nat → Value} {G : sH} {m : mm}
def shO (n0 : Nat) (G : sH) (m : mm) (k N z : Nat) (r : Bool × Nat × (Nat → Int32)) : Option sO := oI n0 G (stM m k r.2.2 r.2.1) N z (if r.1 then ic 1 else ic 0)
theorem c_shapeLoop {s b len : Nat} {f : Nat → Nat} (hs : isStr n0 G s b len f) (h0 : S0 0 = .int (ic 1)) (h6 : S0 6 = .null ∨ ∃ q, S0 6 = .ref q) {l ka : Nat} (hl : ri m 269 1 = ic l) (h60 : l ≤ 60) (hka : kd ka = 5) (hk9 : ka ≠ 269) (hk0 : ka ≠ 270) : ∀ k i kn p a l5 l6, i + k = len → p ≤ l → kn + cntA f i k ≤ 6 → Rx (n0, S0) (d + 4) 34 5 [some (.ref (n0 + 269)), some (.ref s), some (.ref (n0 + ka)), some (.int (ic kn)), some (.int (ic i)), l5, l6] [] (hp n0 G (stM m ka a p), N, z) = shO n0 G m ka N z (rdSh (ri m 270) l f k i kn p a) := by
  have k269 : kd 269 = 13 := rfl
  have hlen := hs.2.2.1
  intro k
  induction k with
  | zero =>
    intro i kn p a l5 l6 hi hpl hkn
    obtain rfl : i = len := by omega
    rw [HProgram_readShape_5, rdSh, shO]
    simp (disch := first | assumption | (show (_ : Nat) < _; omega) | (show (_ : Nat) ≠ _; omega) | (show (_ : Nat) ≤ _; omega) | exact Or.inl rfl | exact Or.inr rfl) only [hG0, hG1, hG2, hF0, hF1, hA0, hA1, xL, xC, icL, Option.bind_some, Nat.le_add_right, Nat.le_refl, if_true, if_false, and_self, true_and, and_true, or_false, false_or, or_true, true_or, and_false, false_and, not_true_eq_false, not_false_eq_true, Nat.reduceAdd, Nat.reduceLeDiff, Nat.reduceLT, Option.toList_some, Option.toList_none, List.cons_append, List.nil_append, callK_ret, callR_ret, callK_thr, decide_true, Bool.true_and, xNr, bI0, bIT, bIF, ne_eq, Classical.not_not, not_false_eq_true, false_or, List.length_nil, icM, ic_lt, ic_eq, le_nl, ↓reduceIte, Nat.lt_irrefl, ri_ws, ri_wn, ri_as, ri_an, upd_s, upd_n, rp_wi, rp_wa, rl_wi, rl_wa, rl_wp, rl_wpa, rl_wl, rp_wl, ri_wl, rp_wd, ri_wd, in_rng, Int32.lt_irrefl, Nat.not_lt_zero, pk_nc, Nat.reduceEqDiff, Nat.succ_ne_self, Nat.one_ne_zero, Nat.add_left_cancel_iff, ri_wpa, ri_wp, QProgram_readShape_0, QProgram_readShape_1, QProgram_readShape_2, j_length hs h0, isOb_lt hs.1, hs.2.2.2.2.2.2.1]
  | succ k ih =>
    intro i kn p a l5 l6 hi hpl hkn
    have hin : i < len := by omega
    have hl' : ri (wa m ka a) 269 1 = ic l := by rw [ri_an _ _ (fun e => hk9 e.symm)]; exact hl
    have ht' : ri (wa m ka a) 270 = ri m 270 := ri_an _ _ (fun e => hk0 e.symm)
    have hf := hs.2.2.2.1 i
    have hA := rdAp_le (t := ri m 270) (f i) hpl
    have hrA := fun (d N z : Nat) => c_readArgument (n0 := n0) (S0 := S0) (G := G) (m := wa m ka a) (d := d) (N := N) (z := z) hl' h60 hpl hf
    have hrS := fun (d N z : Nat) => c_rdS (n0 := n0) (S0 := S0) (G := G) (m := wa m ka a) (d := d) (N := N) (z := z) hl' h60 hpl (c := ic (f i))
    rw [ht'] at hrA hrS
    have hcA : cntA f i (k + 1) = (if isA (f i) then 1 else 0) + cntA f (i + 1) k := rfl
    rw [hcA] at hkn
    have g1 := j_length (N := N) (z := z) (d := d + 2) (m := stM m ka a p) hs h0
    have g2 := j_charAt (N := N) (z := z) (d := d) (m := stM m ka a p) hs h0 h6 hin
    have g3 : isOb (hp n0 G (stM m ka a p)) s 10 = true := (isOb_lt hs.1 10).trans hs.2.2.2.2.2.2.1
    rw [HProgram_readShape_5, rdSh]
    generalize hfi : f i = c at *
    by_cases hia : isA c
    · rw [if_pos hia] at hkn ⊢
      have hk6 : kn < 6 := by omega
      by_cases hv : rdAv (ri m 270) l c p = -ic 1
      · rw [if_pos hv, shO]
        rcases hia with rfl | rfl | rfl <;> simp (disch := first | assumption | (show (_ : Nat) < _; omega) | (show (_ : Nat) ≠ _; omega) | (show (_ : Nat) ≤ _; omega) | exact Or.inl rfl | exact Or.inr rfl) only [hG0, hG1, hG2, hF0, hF1, hA0, hA1, xL, xC, icL, Option.bind_some, Nat.le_add_right, Nat.le_refl, if_true, if_false, and_self, true_and, and_true, or_false, false_or, or_true, true_or, and_false, false_and, not_true_eq_false, not_false_eq_true, Nat.reduceAdd, Nat.reduceLeDiff, Nat.reduceLT, Option.toList_some, Option.toList_none, List.cons_append, List.nil_append, callK_ret, callR_ret, callK_thr, decide_true, Bool.true_and, xNr, bI0, bIT, bIF, ne_eq, Classical.not_not, not_false_eq_true, false_or, List.length_nil, icM, ic_lt, ic_eq, le_nl, ↓reduceIte, Nat.lt_irrefl, ri_ws, ri_wn, ri_as, ri_an, upd_s, upd_n, rp_wi, rp_wa, rl_wi, rl_wa, rl_wp, rl_wpa, rl_wl, rp_wl, ri_wl, rp_wd, ri_wd, in_rng, Int32.lt_irrefl, Nat.not_lt_zero, pk_nc, Nat.reduceEqDiff, Nat.succ_ne_self, Nat.one_ne_zero, Nat.add_left_cancel_iff, ri_wpa, ri_wp, QProgram_readShape_0, QProgram_readShape_1, QProgram_readShape_2, icX, Bool.false_eq_true, g1, g2, g3, hin, hrA, hv]
      · rw [if_neg hv]
        have e := ih (i + 1) (kn + 1) (rdAp (ri m 270) l c p) (upd a kn (rdAv (ri m 270) l c p)) (some (.int (ic c))) (some (.int (rdAv (ri m 270) l c p))) (by omega) hA.2 (by omega)
        rcases hia with rfl | rfl | rfl <;> (simp (disch := first | assumption | (show (_ : Nat) < _; omega) | (show (_ : Nat) ≠ _; omega) | (show (_ : Nat) ≤ _; omega) | exact Or.inl rfl | exact Or.inr rfl) only [hG0, hG1, hG2, hF0, hF1, hA0, hA1, xL, xC, icL, Option.bind_some, Nat.le_add_right, Nat.le_refl, if_true, if_false, and_self, true_and, and_true, or_false, false_or, or_true, true_or, and_false, false_and, not_true_eq_false, not_false_eq_true, Nat.reduceAdd, Nat.reduceLeDiff, Nat.reduceLT, Option.toList_some, Option.toList_none, List.cons_append, List.nil_append, callK_ret, callR_ret, callK_thr, decide_true, Bool.true_and, xNr, bI0, bIT, bIF, ne_eq, Classical.not_not, not_false_eq_true, false_or, List.length_nil, icM, ic_lt, ic_eq, le_nl, ↓reduceIte, Nat.lt_irrefl, ri_ws, ri_wn, ri_as, ri_an, upd_s, upd_n, rp_wi, rp_wa, rl_wi, rl_wa, rl_wp, rl_wpa, rl_wl, rp_wl, ri_wl, rp_wd, ri_wd, in_rng, Int32.lt_irrefl, Nat.not_lt_zero, pk_nc, Nat.reduceEqDiff, Nat.succ_ne_self, Nat.one_ne_zero, Nat.add_left_cancel_iff, ri_wpa, ri_wp, QProgram_readShape_0, QProgram_readShape_1, QProgram_readShape_2, icX, Bool.false_eq_true, g1, g2, g3, hin, hrA, hv, hk6, st_put, ic_add]; exact e)
    · rw [if_neg hia] at hkn ⊢
      have h35 : ¬ c = 35 := fun e => hia (Or.inl e)
      have h37 : ¬ c = 37 := fun e => hia (Or.inr (Or.inl e))
      have h63 : ¬ c = 63 := fun e => hia (Or.inr (Or.inr e))
      by_cases hq : p < l ∧ ri m 270 p = ic c
      · rw [if_pos hq]
        simp only [if_pos hq] at hrS
        have e := ih (i + 1) kn (p + 1) a (some (.int (ic c))) l6 (by omega) hq.1 (by omega)
        simp (disch := first | assumption | (show (_ : Nat) < _; omega) | (show (_ : Nat) ≠ _; omega) | (show (_ : Nat) ≤ _; omega) | exact Or.inl rfl | exact Or.inr rfl) only [hG0, hG1, hG2, hF0, hF1, hA0, hA1, xL, xC, icL, Option.bind_some, Nat.le_add_right, Nat.le_refl, if_true, if_false, and_self, true_and, and_true, or_false, false_or, or_true, true_or, and_false, false_and, not_true_eq_false, not_false_eq_true, Nat.reduceAdd, Nat.reduceLeDiff, Nat.reduceLT, Option.toList_some, Option.toList_none, List.cons_append, List.nil_append, callK_ret, callR_ret, callK_thr, decide_true, Bool.true_and, xNr, bI0, bIT, bIF, ne_eq, Classical.not_not, not_false_eq_true, false_or, List.length_nil, icM, ic_lt, ic_eq, le_nl, ↓reduceIte, Nat.lt_irrefl, ri_ws, ri_wn, ri_as, ri_an, upd_s, upd_n, rp_wi, rp_wa, rl_wi, rl_wa, rl_wp, rl_wpa, rl_wl, rp_wl, ri_wl, rp_wd, ri_wd, in_rng, Int32.lt_irrefl, Nat.not_lt_zero, pk_nc, Nat.reduceEqDiff, Nat.succ_ne_self, Nat.one_ne_zero, Nat.add_left_cancel_iff, ri_wpa, ri_wp, QProgram_readShape_0, QProgram_readShape_1, QProgram_readShape_2, icX, Bool.false_eq_true, g1, g2, g3, hin, h35, h37, h63, hrS, ic_add]
        exact e
      · rw [if_neg hq, shO]
        simp only [if_neg hq] at hrS
        simp (disch := first | assumption | (show (_ : Nat) < _; omega) | (show (_ : Nat) ≠ _; omega) | (show (_ : Nat) ≤ _; omega) | exact Or.inl rfl | exact Or.inr rfl) only [hG0, hG1, hG2, hF0, hF1, hA0, hA1, xL, xC, icL, Option.bind_some, Nat.le_add_right, Nat.le_refl, if_true, if_false, and_self, true_and, and_true, or_false, false_or, or_true, true_or, and_false, false_and, not_true_eq_false, not_false_eq_true, Nat.reduceAdd, Nat.reduceLeDiff, Nat.reduceLT, Option.toList_some, Option.toList_none, List.cons_append, List.nil_append, callK_ret, callR_ret, callK_thr, decide_true, Bool.true_and, xNr, bI0, bIT, bIF, ne_eq, Classical.not_not, not_false_eq_true, false_or, List.length_nil, icM, ic_lt, ic_eq, le_nl, ↓reduceIte, Nat.lt_irrefl, ri_ws, ri_wn, ri_as, ri_an, upd_s, upd_n, rp_wi, rp_wa, rl_wi, rl_wa, rl_wp, rl_wpa, rl_wl, rp_wl, ri_wl, rp_wd, ri_wd, in_rng, Int32.lt_irrefl, Nat.not_lt_zero, pk_nc, Nat.reduceEqDiff, Nat.succ_ne_self, Nat.one_ne_zero, Nat.add_left_cancel_iff, ri_wpa, ri_wp, QProgram_readShape_0, QProgram_readShape_1, QProgram_readShape_2, icX, Bool.false_eq_true, g1, g2, g3, hin, h35, h37, h63, hrS]
theorem c_readShape {s b len : Nat} {f : Nat → Nat} (hs : isStr n0 G s b len f) (h0 : S0 0 = .int (ic 1)) (h6 : S0 6 = .null ∨ ∃ q, S0 6 = .ref q) {l ka : Nat} (hl : ri m 269 1 = ic l) (h60 : l ≤ 60) (hka : kd ka = 5) (hk9 : ka ≠ 269) (hk0 : ka ≠ 270) {p : Nat} {a : Nat → Int32} (hpl : p ≤ l) (hcA : cntA f 0 len ≤ 6) : Mt (n0, S0) (d + 5) 34 [.ref (n0 + 269), .ref s, .ref (n0 + ka)] (hp n0 G (stM m ka a p), N, z) = shO n0 G m ka N z (rdSh (ri m 270) l f len 0 0 p a) := by
  rw [NProgram_readShape]
  simp (disch := first | assumption | (show (_ : Nat) < _; omega) | (show (_ : Nat) ≠ _; omega) | (show (_ : Nat) ≤ _; omega) | exact Or.inl rfl | exact Or.inr rfl) only [hG0, hG1, hG2, hF0, hF1, hA0, hA1, xL, xC, icL, Option.bind_some, Nat.le_add_right, Nat.le_refl, if_true, if_false, and_self, true_and, and_true, or_false, false_or, or_true, true_or, and_false, false_and, not_true_eq_false, not_false_eq_true, Nat.reduceAdd, Nat.reduceLeDiff, Nat.reduceLT, Option.toList_some, Option.toList_none, List.cons_append, List.nil_append, callK_ret, callR_ret, callK_thr, decide_true, Bool.true_and, xNr, bI0, bIT, bIF, ne_eq, Classical.not_not, not_false_eq_true, false_or, List.length_nil, icM, ic_lt, ic_eq, le_nl, ↓reduceIte, Nat.lt_irrefl, ri_ws, ri_wn, ri_as, ri_an, upd_s, upd_n, rp_wi, rp_wa, rl_wi, rl_wa, rl_wp, rl_wpa, rl_wl, rp_wl, ri_wl, rp_wd, ri_wd, in_rng, Int32.lt_irrefl, Nat.not_lt_zero, pk_nc, Nat.reduceEqDiff, Nat.succ_ne_self, Nat.one_ne_zero, Nat.add_left_cancel_iff, ri_wpa, ri_wp, QProgram_readShape_0, QProgram_readShape_1, QProgram_readShape_2]
  exact c_shapeLoop hs h0 h6 hl h60 hka hk9 hk0 len 0 0 p a _ _ (by omega) hpl (by omega)
/-- the eleven verbs: their array v, verb k at vv k, its shape at ss k with bytes bb k, length ln k, letters sh k -/
def isVerbs (n0 : Nat) (G : sH) (S0 : Nat → Value) (v : Nat) (vv ss bb ln : Nat → Nat) (sh : Nat → Nat → Nat) : Prop := S0 0 = .int (ic 1) ∧ (S0 6 = .null ∨ ∃ q, S0 6 = .ref q) ∧ S0 3 = .ref v ∧ v < n0 ∧ alen G v = some (ic 11) ∧ ∀ k, k < 11 → vv k < n0 ∧ aldR G v (ic k) = some (.ref (vv k)) ∧ gf G (vv k) 11 1 = some (.ref (ss k)) ∧ isStr n0 G (ss k) (bb k) (ln k) (sh k) ∧ cntA (sh k) 0 (ln k) ≤ 6
/-- a command read: the verb, where the reader comes to, the arguments -/
def rdCm (t : Nat → Int32) (l : Nat) (ln : Nat → Nat) (sh : Nat → Nat → Nat) (p : Nat) : Nat → Nat → Nat → (Nat → Int32) → Option Nat × Nat × (Nat → Int32)
  | 0, _, far, a => (none, far, a)
  | k + 1, j, far, a => if (rdSh t l (sh j) (ln j) 0 0 p a).1 then (some j, (rdSh t l (sh j) (ln j) 0 0 p a).2.1, (rdSh t l (sh j) (ln j) 0 0 p a).2.2) else rdCm t l ln sh p k (j + 1) (if far < (rdSh t l (sh j) (ln j) 0 0 p a).2.1 then (rdSh t l (sh j) (ln j) 0 0 p a).2.1 else far) (rdSh t l (sh j) (ln j) 0 0 p a).2.2
def cmO (n0 : Nat) (G : sH) (m : mm) (kc N z : Nat) (vv : Nat → Nat) (r : Option Nat × Nat × (Nat → Int32)) : Option sO := match r.1 with
  | some j => oI n0 G (wp (stM m (kc + 1) r.2.2 r.2.1) kc 0 (vv j)) N z (ic 1)
  | none => oI n0 G (stM m (kc + 1) r.2.2 r.2.1) N z (ic 0)
theorem c_readCommand {v : Nat} {vv ss bb ln : Nat → Nat} {sh : Nat → Nat → Nat} (hv : isVerbs n0 G S0 v vv ss bb ln sh) {l kc : Nat} (hl : ri m 269 1 = ic l) (h60 : l ≤ 60) (hkc : kd kc = 16) (hka : kd (kc + 1) = 5) (hk9 : kc + 1 ≠ 269) (hk0 : kc + 1 ≠ 270) {p : Nat} {a : Nat → Int32} (hpl : p ≤ l) : Mt (n0, S0) (d + 6) 33 [.ref (n0 + 269), .ref (n0 + kc)] (hp n0 G (stM m (kc + 1) a p), N, z) = cmO n0 G m kc N z vv (rdCm (ri m 270) l ln sh p 11 0 p a) := by
  have k269 : kd 269 = 13 := rfl
  obtain ⟨h0, h6, h3, hvn, hvl, hvs⟩ := hv
  have key : ∀ k j far a p0 l7, j + k = 11 → far ≤ l → p0 ≤ l → Rx (n0, S0) (d + 5) 33 23 [some (.ref (n0 + 269)), some (.ref (n0 + kc)), some (.int (ic p)), some (.int (ic far)), some (.ref v), some (.int (ic 11)), some (.int (ic j)), l7] [] (hp n0 G (stM m (kc + 1) a p0), N, z) = cmO n0 G m kc N z vv (rdCm (ri m 270) l ln sh p k j far a) := by
    intro k
    induction k with
    | zero =>
      intro j far a p0 l7 hj hfar hp0
      obtain rfl : j = 11 := by omega
      rw [HProgram_readCommand_23, rdCm, cmO]
      simp (disch := first | assumption | (show (_ : Nat) < _; omega) | (show (_ : Nat) ≠ _; omega) | (show (_ : Nat) ≤ _; omega) | exact Or.inl rfl | exact Or.inr rfl) only [hG0, hG1, hG2, hF0, hF1, hA0, hA1, xL, xC, icL, Option.bind_some, Nat.le_add_right, Nat.le_refl, if_true, if_false, and_self, true_and, and_true, or_false, false_or, or_true, true_or, and_false, false_and, not_true_eq_false, not_false_eq_true, Nat.reduceAdd, Nat.reduceLeDiff, Nat.reduceLT, Option.toList_some, Option.toList_none, List.cons_append, List.nil_append, callK_ret, callR_ret, callK_thr, decide_true, Bool.true_and, xNr, bI0, bIT, bIF, ne_eq, Classical.not_not, not_false_eq_true, false_or, List.length_nil, icM, ic_lt, ic_eq, le_nl, ↓reduceIte, Nat.lt_irrefl, ri_ws, ri_wn, ri_as, ri_an, upd_s, upd_n, rp_wi, rp_wa, rl_wi, rl_wa, rl_wp, rl_wpa, rl_wl, rp_wl, ri_wl, rp_wd, ri_wd, in_rng, Int32.lt_irrefl, Nat.not_lt_zero, pk_nc, Nat.reduceEqDiff, Nat.succ_ne_self, Nat.one_ne_zero, Nat.add_left_cancel_iff, ri_wpa, ri_wp, QProgram_readCommand_0, QProgram_readCommand_1, QProgram_readCommand_2, atM_at]
    | succ k ih =>
      intro j far a p0 l7 hj hfar hp0
      have hj11 : j < 11 := by omega
      obtain ⟨g1, g2, g3, g4, g5⟩ := hvs j hj11
      have hr := fun (d N z : Nat) => c_readShape (n0 := n0) (S0 := S0) (G := G) (m := m) (d := d) (N := N) (z := z) g4 h0 h6 hl h60 hka hk9 hk0 hpl g5 (a := a)
      have hle := rdSh_le (t := ri m 270) (l := l) (f := sh j) (ln j) 0 0 p a hpl
      have ih' := fun far p0 => ih (j + 1) far (rdSh (ri m 270) l (sh j) (ln j) 0 0 p a).2.2 p0 (some (.ref (vv j))) (by omega)
      rw [HProgram_readCommand_23, rdCm]
      generalize rdSh (ri m 270) l (sh j) (ln j) 0 0 p a = r at hr hle ih' ⊢
      obtain ⟨ok, q, a'⟩ := r
      unfold shO at hr
      dsimp only at hr hle ih' ⊢
      cases ok with
      | true =>
        simp only [if_true] at hr ⊢
        rw [cmO]
        simp (disch := first | assumption | (show (_ : Nat) < _; omega) | (show (_ : Nat) ≠ _; omega) | (show (_ : Nat) ≤ _; omega) | exact Or.inl rfl | exact Or.inr rfl) only [hG0, hG1, hG2, hF0, hF1, hA0, hA1, xL, xC, icL, Option.bind_some, Nat.le_add_right, Nat.le_refl, if_true, if_false, and_self, true_and, and_true, or_false, false_or, or_true, true_or, and_false, false_and, not_true_eq_false, not_false_eq_true, Nat.reduceAdd, Nat.reduceLeDiff, Nat.reduceLT, Option.toList_some, Option.toList_none, List.cons_append, List.nil_append, callK_ret, callR_ret, callK_thr, decide_true, Bool.true_and, xNr, bI0, bIT, bIF, ne_eq, Classical.not_not, not_false_eq_true, false_or, List.length_nil, icM, ic_lt, ic_eq, le_nl, ↓reduceIte, Nat.lt_irrefl, ri_ws, ri_wn, ri_as, ri_an, upd_s, upd_n, rp_wi, rp_wa, rl_wi, rl_wa, rl_wp, rl_wpa, rl_wl, rp_wl, ri_wl, rp_wd, ri_wd, in_rng, Int32.lt_irrefl, Nat.not_lt_zero, pk_nc, Nat.reduceEqDiff, Nat.succ_ne_self, Nat.one_ne_zero, Nat.add_left_cancel_iff, ri_wpa, ri_wp, QProgram_readCommand_0, QProgram_readCommand_1, QProgram_readCommand_2, atM_at, hj11, aldR_lt, g2, gf_lt, g3, hr]
      | false =>
        simp only [Bool.false_eq_true, if_false] at hr ⊢
        by_cases hlt : far < q
        · rw [if_pos hlt]
          have e := ih' q q hle.2 hle.2
          simp (disch := first | assumption | (show (_ : Nat) < _; omega) | (show (_ : Nat) ≠ _; omega) | (show (_ : Nat) ≤ _; omega) | exact Or.inl rfl | exact Or.inr rfl) only [hG0, hG1, hG2, hF0, hF1, hA0, hA1, xL, xC, icL, Option.bind_some, Nat.le_add_right, Nat.le_refl, if_true, if_false, and_self, true_and, and_true, or_false, false_or, or_true, true_or, and_false, false_and, not_true_eq_false, not_false_eq_true, Nat.reduceAdd, Nat.reduceLeDiff, Nat.reduceLT, Option.toList_some, Option.toList_none, List.cons_append, List.nil_append, callK_ret, callR_ret, callK_thr, decide_true, Bool.true_and, xNr, bI0, bIT, bIF, ne_eq, Classical.not_not, not_false_eq_true, false_or, List.length_nil, icM, ic_lt, ic_eq, le_nl, ↓reduceIte, Nat.lt_irrefl, ri_ws, ri_wn, ri_as, ri_an, upd_s, upd_n, rp_wi, rp_wa, rl_wi, rl_wa, rl_wp, rl_wpa, rl_wl, rp_wl, ri_wl, rp_wd, ri_wd, in_rng, Int32.lt_irrefl, Nat.not_lt_zero, pk_nc, Nat.reduceEqDiff, Nat.succ_ne_self, Nat.one_ne_zero, Nat.add_left_cancel_iff, ri_wpa, ri_wp, QProgram_readCommand_0, QProgram_readCommand_1, QProgram_readCommand_2, atM_at, hj11, aldR_lt, g2, gf_lt, g3, hr, atM_p, hlt, ic_add]
          exact e
        · rw [if_neg hlt]
          have e := ih' far q hfar hle.2
          simp (disch := first | assumption | (show (_ : Nat) < _; omega) | (show (_ : Nat) ≠ _; omega) | (show (_ : Nat) ≤ _; omega) | exact Or.inl rfl | exact Or.inr rfl) only [hG0, hG1, hG2, hF0, hF1, hA0, hA1, xL, xC, icL, Option.bind_some, Nat.le_add_right, Nat.le_refl, if_true, if_false, and_self, true_and, and_true, or_false, false_or, or_true, true_or, and_false, false_and, not_true_eq_false, not_false_eq_true, Nat.reduceAdd, Nat.reduceLeDiff, Nat.reduceLT, Option.toList_some, Option.toList_none, List.cons_append, List.nil_append, callK_ret, callR_ret, callK_thr, decide_true, Bool.true_and, xNr, bI0, bIT, bIF, ne_eq, Classical.not_not, not_false_eq_true, false_or, List.length_nil, icM, ic_lt, ic_eq, le_nl, ↓reduceIte, Nat.lt_irrefl, ri_ws, ri_wn, ri_as, ri_an, upd_s, upd_n, rp_wi, rp_wa, rl_wi, rl_wa, rl_wp, rl_wpa, rl_wl, rp_wl, ri_wl, rp_wd, ri_wd, in_rng, Int32.lt_irrefl, Nat.not_lt_zero, pk_nc, Nat.reduceEqDiff, Nat.succ_ne_self, Nat.one_ne_zero, Nat.add_left_cancel_iff, ri_wpa, ri_wp, QProgram_readCommand_0, QProgram_readCommand_1, QProgram_readCommand_2, atM_at, hj11, aldR_lt, g2, gf_lt, g3, hr, atM_p, hlt, ic_add]
          exact e
  rw [NProgram_readCommand]
  simp (disch := first | assumption | (show (_ : Nat) < _; omega) | (show (_ : Nat) ≠ _; omega) | (show (_ : Nat) ≤ _; omega) | exact Or.inl rfl | exact Or.inr rfl) only [hG0, hG1, hG2, hF0, hF1, hA0, hA1, xL, xC, icL, Option.bind_some, Nat.le_add_right, Nat.le_refl, if_true, if_false, and_self, true_and, and_true, or_false, false_or, or_true, true_or, and_false, false_and, not_true_eq_false, not_false_eq_true, Nat.reduceAdd, Nat.reduceLeDiff, Nat.reduceLT, Option.toList_some, Option.toList_none, List.cons_append, List.nil_append, callK_ret, callR_ret, callK_thr, decide_true, Bool.true_and, xNr, bI0, bIT, bIF, ne_eq, Classical.not_not, not_false_eq_true, false_or, List.length_nil, icM, ic_lt, ic_eq, le_nl, ↓reduceIte, Nat.lt_irrefl, ri_ws, ri_wn, ri_as, ri_an, upd_s, upd_n, rp_wi, rp_wa, rl_wi, rl_wa, rl_wp, rl_wpa, rl_wl, rp_wl, ri_wl, rp_wd, ri_wd, in_rng, Int32.lt_irrefl, Nat.not_lt_zero, pk_nc, Nat.reduceEqDiff, Nat.succ_ne_self, Nat.one_ne_zero, Nat.add_left_cancel_iff, ri_wpa, ri_wp, QProgram_readCommand_0, QProgram_readCommand_1, QProgram_readCommand_2, atM_p, h3, alen_lt, hvl]
  exact key 11 0 p a p _ (by omega) hpl hpl
end C14
