/-! the class's Planner: its cells, collect, keepIfBetter; expanded by wip/whole/px.py out of wip/whole/c17.src -/
section C17
variable {n0 N z d : Nat} {S0 : Nat → Value} {G : sH} {m : mm}
/-- the planner's own numbers: fields, chosen, order, finishes, best order, best finishes -/
def psM (m : mm) (g ch od fi bo bf : Nat → Int32) : mm := wa (wa (wa (wa (wa (wa m 256 g) 258 ch) 259 od) 260 fi) 261 bo) 262 bf
section PS
variable {g ch od fi bo bf h : Nat → Int32} {i : Nat} {v : Int32}
theorem ps_256 : ri (psM m g ch od fi bo bf) 256 = g := by unfold psM; simp only [ri_wa]; rfl
theorem ps_258 : ri (psM m g ch od fi bo bf) 258 = ch := by unfold psM; simp only [ri_wa]; rfl
theorem ps_259 : ri (psM m g ch od fi bo bf) 259 = od := by unfold psM; simp only [ri_wa]; rfl
theorem ps_260 : ri (psM m g ch od fi bo bf) 260 = fi := by unfold psM; simp only [ri_wa]; rfl
theorem ps_261 : ri (psM m g ch od fi bo bf) 261 = bo := by unfold psM; simp only [ri_wa]; rfl
theorem ps_262 : ri (psM m g ch od fi bo bf) 262 = bf := by unfold psM; simp only [ri_wa]; rfl
theorem ps_o {k : Nat} (h1 : k ≠ 256) (h2 : k ≠ 258) (h3 : k ≠ 259) (h4 : k ≠ 260) (h5 : k ≠ 261) (h6 : k ≠ 262) : ri (psM m g ch od fi bo bf) k = ri m k := by
  unfold psM
  rw [ri_an _ _ h6, ri_an _ _ h5, ri_an _ _ h4, ri_an _ _ h3, ri_an _ _ h2, ri_an _ _ h1]
theorem ps_rp : rp (psM m g ch od fi bo bf) = rp m := rfl
theorem ps_rl : rl (psM m g ch od fi bo bf) = rl m := rfl
theorem ps_w262 : wa (psM m g ch od fi bo bf) 262 h = psM m g ch od fi bo h := by unfold psM; rw [wa_wa]
theorem ps_w261 : wa (psM m g ch od fi bo bf) 261 h = psM m g ch od fi h bf := by
  unfold psM
  rw [wa_comm _ _ _ (show 262 ≠ 261 by decide), wa_wa]
theorem ps_w260 : wa (psM m g ch od fi bo bf) 260 h = psM m g ch od h bo bf := by
  unfold psM
  rw [wa_comm _ _ _ (show 262 ≠ 260 by decide), wa_comm _ _ _ (show 261 ≠ 260 by decide), wa_wa]
theorem ps_w259 : wa (psM m g ch od fi bo bf) 259 h = psM m g ch h fi bo bf := by
  unfold psM
  rw [wa_comm _ _ _ (show 262 ≠ 259 by decide), wa_comm _ _ _ (show 261 ≠ 259 by decide), wa_comm _ _ _ (show 260 ≠ 259 by decide), wa_wa]
theorem ps_w258 : wa (psM m g ch od fi bo bf) 258 h = psM m g h od fi bo bf := by
  unfold psM
  rw [wa_comm _ _ _ (show 262 ≠ 258 by decide), wa_comm _ _ _ (show 261 ≠ 258 by decide), wa_comm _ _ _ (show 260 ≠ 258 by decide), wa_comm _ _ _ (show 259 ≠ 258 by decide), wa_wa]
theorem ps_w256 : wa (psM m g ch od fi bo bf) 256 h = psM m h ch od fi bo bf := by
  unfold psM
  rw [wa_comm _ _ _ (show 262 ≠ 256 by decide), wa_comm _ _ _ (show 261 ≠ 256 by decide), wa_comm _ _ _ (show 260 ≠ 256 by decide), wa_comm _ _ _ (show 259 ≠ 256 by decide), wa_comm _ _ _ (show 258 ≠ 256 by decide), wa_wa]
theorem ps_i260 : wi (psM m g ch od fi bo bf) 260 i v = psM m g ch od (upd fi i v) bo bf := by rw [wi_chain, ps_w260, ps_260]
theorem ps_i259 : wi (psM m g ch od fi bo bf) 259 i v = psM m g ch (upd od i v) fi bo bf := by rw [wi_chain, ps_w259, ps_259]
theorem ps_i258 : wi (psM m g ch od fi bo bf) 258 i v = psM m g (upd ch i v) od fi bo bf := by rw [wi_chain, ps_w258, ps_258]
theorem ps_i256 : wi (psM m g ch od fi bo bf) 256 i v = psM m (upd g i v) ch od fi bo bf := by rw [wi_chain, ps_w256, ps_256]
theorem ps_self : psM m (ri m 256) (ri m 258) (ri m 259) (ri m 260) (ri m 261) (ri m 262) = m := by
  unfold psM
  rw [wa_self, wa_self, wa_self, wa_self, wa_self, wa_self]
end PS
/-- a plan kept, if it is better -/
def kpB (g : Nat → Int32) (late : Int32) : Prop := g 4 = ic 0 ∨ late < g 5
theorem c_keepIfBetter {g ch od fi bo bf : Nat → Int32} {late : Int32} : Mt (n0, S0) (d + 1) 23 [.ref (n0 + 256), .int late] (hp n0 G (psM m g ch od fi bo bf), N, z) = some (.inl none, (hp n0 G (if g 4 = ic 0 ∨ late < g 5 then psM m (upd (upd g 4 (ic 1)) 5 late) ch od fi (cpf 6 od bo) (cpf 6 fi bf) else psM m g ch od fi bo bf), N, z)) := by
  have k256 : kd 256 = 10 := rfl
  have k259 : kd 259 = 5 := rfl
  have k260 : kd 260 = 5 := rfl
  have k261 : kd 261 = 5 := rfl
  have k262 : kd 262 = 5 := rfl
  rw [NPlanner_keepIfBetter]
  by_cases h1 : g 4 = ic 0
  · rw [if_pos (Or.inl h1)]
    simp (disch := first | assumption | (show (_ : Nat) < _; omega) | (show (_ : Nat) ≠ _; omega) | (show (_ : Nat) ≤ _; omega) | exact Or.inl rfl | exact Or.inr rfl) only [hG0, hG1, hG2, hF0, hF1, hA0, hA1, xL, xC, icL, Option.bind_some, Nat.le_add_right, Nat.le_refl, if_true, if_false, and_self, true_and, and_true, or_false, false_or, or_true, true_or, and_false, false_and, not_true_eq_false, not_false_eq_true, Nat.reduceAdd, Nat.reduceLeDiff, Nat.reduceLT, Option.toList_some, Option.toList_none, List.cons_append, List.nil_append, callK_ret, callR_ret, callK_thr, decide_true, Bool.true_and, xNr, bI0, bIT, bIF, ne_eq, Classical.not_not, not_false_eq_true, false_or, List.length_nil, icM, ic_lt, ic_eq, le_nl, ↓reduceIte, Nat.lt_irrefl, ri_ws, ri_wn, ri_as, ri_an, upd_s, upd_n, rp_wi, rp_wa, rl_wi, rl_wa, rl_wp, rl_wpa, rl_wl, rp_wl, ri_wl, rp_wd, ri_wd, in_rng, Int32.lt_irrefl, Nat.not_lt_zero, pk_nc, Nat.reduceEqDiff, Nat.succ_ne_self, Nat.one_ne_zero, Nat.add_left_cancel_iff, ri_wpa, ri_wp, QPlanner_keepIfBetter_0, QPlanner_keepIfBetter_1, ps_256, h1, ps_i256, ps_259, ps_260, ps_261, ps_262, va_cpf, ps_w261, ps_w262]
  · by_cases h2 : late < g 5
    · rw [if_pos (Or.inr h2)]
      simp (disch := first | assumption | (show (_ : Nat) < _; omega) | (show (_ : Nat) ≠ _; omega) | (show (_ : Nat) ≤ _; omega) | exact Or.inl rfl | exact Or.inr rfl) only [hG0, hG1, hG2, hF0, hF1, hA0, hA1, xL, xC, icL, Option.bind_some, Nat.le_add_right, Nat.le_refl, if_true, if_false, and_self, true_and, and_true, or_false, false_or, or_true, true_or, and_false, false_and, not_true_eq_false, not_false_eq_true, Nat.reduceAdd, Nat.reduceLeDiff, Nat.reduceLT, Option.toList_some, Option.toList_none, List.cons_append, List.nil_append, callK_ret, callR_ret, callK_thr, decide_true, Bool.true_and, xNr, bI0, bIT, bIF, ne_eq, Classical.not_not, not_false_eq_true, false_or, List.length_nil, icM, ic_lt, ic_eq, le_nl, ↓reduceIte, Nat.lt_irrefl, ri_ws, ri_wn, ri_as, ri_an, upd_s, upd_n, rp_wi, rp_wa, rl_wi, rl_wa, rl_wp, rl_wpa, rl_wl, rp_wl, ri_wl, rp_wd, ri_wd, in_rng, Int32.lt_irrefl, Nat.not_lt_zero, pk_nc, Nat.reduceEqDiff, Nat.succ_ne_self, Nat.one_ne_zero, Nat.add_left_cancel_iff, ri_wpa, ri_wp, QPlanner_keepIfBetter_0, QPlanner_keepIfBetter_1, ps_256, h1, h2, ps_i256, ps_259, ps_260, ps_261, ps_262, va_cpf, ps_w261, ps_w262]
    · rw [if_neg (fun z => z.elim h1 h2)]
      simp (disch := first | assumption | (show (_ : Nat) < _; omega) | (show (_ : Nat) ≠ _; omega) | (show (_ : Nat) ≤ _; omega) | exact Or.inl rfl | exact Or.inr rfl) only [hG0, hG1, hG2, hF0, hF1, hA0, hA1, xL, xC, icL, Option.bind_some, Nat.le_add_right, Nat.le_refl, if_true, if_false, and_self, true_and, and_true, or_false, false_or, or_true, true_or, and_false, false_and, not_true_eq_false, not_false_eq_true, Nat.reduceAdd, Nat.reduceLeDiff, Nat.reduceLT, Option.toList_some, Option.toList_none, List.cons_append, List.nil_append, callK_ret, callR_ret, callK_thr, decide_true, Bool.true_and, xNr, bI0, bIT, bIF, ne_eq, Classical.not_not, not_false_eq_true, false_or, List.length_nil, icM, ic_lt, ic_eq, le_nl, ↓reduceIte, Nat.lt_irrefl, ri_ws, ri_wn, ri_as, ri_an, upd_s, upd_n, rp_wi, rp_wa, rl_wi, rl_wa, rl_wp, rl_wpa, rl_wl, rp_wl, ri_wl, rp_wd, ri_wd, in_rng, Int32.lt_irrefl, Nat.not_lt_zero, pk_nc, Nat.reduceEqDiff, Nat.succ_ne_self, Nat.one_ne_zero, Nat.add_left_cancel_iff, ri_wpa, ri_wp, QPlanner_keepIfBetter_0, QPlanner_keepIfBetter_1, ps_256, h1, h2]
/-- the places of the planner's jobs -/
def JP (m : mm) : Prop := (∀ i, i < 6 → 263 ≤ rp m 257 i ∧ rp m 257 i < 269) ∧ ∀ i, i < 6 → ∀ j, j < 6 → rp m 257 i = rp m 257 j → i = j
theorem kd_PJ {o : Nat} (h1 : 263 ≤ o) (h2 : o < 269) : kd o = 6 := by
  rcases (show o = 263 ∨ o = 264 ∨ o = 265 ∨ o = 266 ∨ o = 267 ∨ o = 268 by omega) with rfl | rfl | rfl | rfl | rfl | rfl <;> rfl
theorem JP.kd (h : JP m) {i : Nat} (hi : i < 6) : kd (rp m 257 i) = 6 := kd_PJ (h.1 i hi).1 (h.1 i hi).2
/-- the jobs of a barrow collected: the memory, how many -/
def coM (m : mm) (w : Int32) : Nat → mm × Nat
  | 0 => (wi m 256 8 (ic 0), 0)
  | i + 1 => if ri m (rp m 2 i) 7 = w ∧ (coM m w i).2 < 6 then (wi (wa (coM m w i).1 (rp m 257 (coM m w i).2) (cpf 8 (ri m (rp m 2 i)) (ri (coM m w i).1 (rp m 257 (coM m w i).2)))) 256 8 (ic ((coM m w i).2 + 1)), (coM m w i).2 + 1) else coM m w i
theorem coM_6 {w : Int32} (i : Nat) : (coM m w i).2 ≤ 6 ∧ (coM m w i).2 ≤ i := by
  induction i with
  | zero => exact ⟨Nat.zero_le _, Nat.le_refl _⟩
  | succ i ih =>
    unfold coM
    split
    · rename_i h
      exact ⟨by have := h.2; show _ + 1 ≤ 6; omega, by show _ + 1 ≤ i + 1; omega⟩
    · exact ⟨ih.1, by omega⟩
theorem coM_rp {w : Int32} (i : Nat) : rp (coM m w i).1 = rp m ∧ rl (coM m w i).1 = rl m ∧ rd (coM m w i).1 = rd m := by
  induction i with
  | zero => exact ⟨rfl, rfl, rfl⟩
  | succ i ih =>
    unfold coM
    split
    · exact ih
    · exact ih
theorem coM_o (hP : JP m) {w : Int32} (i : Nat) {q : Nat} (h1 : q ≠ 256) (h2 : q < 263 ∨ 269 ≤ q) : ri (coM m w i).1 q = ri m q := by
  induction i with
  | zero => exact ri_wn _ _ _ h1
  | succ i ih =>
    unfold coM
    split
    · rename_i h
      have := hP.1 _ h.2
      show ri (wi (wa _ _ _) _ _ _) q = _
      rw [ri_wn _ _ _ h1, ri_an _ _ (by omega)]
      exact ih
    · exact ih
theorem coM_c (hP : JP m) {w : Int32} (i : Nat) : ri (coM m w i).1 256 8 = ic (coM m w i).2 := by
  induction i with
  | zero =>
    show ri (wi m 256 8 (ic 0)) 256 8 = _
    rw [ri_ws, upd_s]
    rfl
  | succ i ih =>
    unfold coM
    split
    · show ri (wi (wa _ _ _) _ _ _) 256 8 = _
      rw [ri_ws, upd_s]
    · exact ih
theorem c_collect (hJ : JV m 1) (hP : JP m) {n : Nat} (hn : ri m 1 1 = ic n) (h12 : n ≤ 12) {w : Int32} : Mt (n0, S0) (d + 2) 21 [.ref (n0 + 256), .ref (n0 + 1), .int w] (hp n0 G m, N, z) = some (.inl none, (hp n0 G (coM m w n).1, N, z)) := by
  have k1 : kd 1 = 1 := rfl
  have k2 : kd 2 = 2 := rfl
  have k256 : kd 256 = 10 := rfl
  have k257 : kd 257 = 11 := rfl
  rw [NPlanner_collect]
  simp (disch := first | assumption | (show (_ : Nat) < _; omega) | (show (_ : Nat) ≠ _; omega) | (show (_ : Nat) ≤ _; omega) | exact Or.inl rfl | exact Or.inr rfl) only [hG0, hG1, hG2, hF0, hF1, hA0, hA1, xL, xC, icL, Option.bind_some, Nat.le_add_right, Nat.le_refl, if_true, if_false, and_self, true_and, and_true, or_false, false_or, or_true, true_or, and_false, false_and, not_true_eq_false, not_false_eq_true, Nat.reduceAdd, Nat.reduceLeDiff, Nat.reduceLT, Option.toList_some, Option.toList_none, List.cons_append, List.nil_append, callK_ret, callR_ret, callK_thr, decide_true, Bool.true_and, xNr, bI0, bIT, bIF, ne_eq, Classical.not_not, not_false_eq_true, false_or, List.length_nil, icM, ic_lt, ic_eq, le_nl, ↓reduceIte, Nat.lt_irrefl, ri_ws, ri_wn, ri_as, ri_an, upd_s, upd_n, rp_wi, rp_wa, rl_wi, rl_wa, rl_wp, rl_wpa, rl_wl, rp_wl, ri_wl, rp_wd, ri_wd, in_rng, Int32.lt_irrefl, Nat.not_lt_zero, pk_nc, Nat.reduceEqDiff, Nat.succ_ne_self, Nat.one_ne_zero, Nat.add_left_cancel_iff, ri_wpa, ri_wp, QPlanner_collect_0, QPlanner_collect_1]
  have step : ∀ i, i < n → Rx (n0, S0) (d + 1) 21 7 [some (.ref (n0 + 256)), some (.ref (n0 + 1)), some (.int w), some (.int (ic i))] [] (hp n0 G (coM m w i).1, N, z) = Rx (n0, S0) (d + 1) 21 7 [some (.ref (n0 + 256)), some (.ref (n0 + 1)), some (.int w), some (.int (ic (i + 1)))] [] (hp n0 G (coM m w (i + 1)).1, N, z) := by
    intro i hi
    have hk := hJ.kd isS_1 (show i < 12 by omega)
    have hk1 : 1 + 5 ≤ rp m 2 i ∧ rp m 2 i < 1 + 17 := hJ.1 i (by omega)
    have e1 : ri (coM m w i).1 1 = ri m 1 := coM_o hP i (by decide) (by omega)
    have e2 : ri (coM m w i).1 (rp m 2 i) = ri m (rp m 2 i) := coM_o hP i (by omega) (by omega)
    have e3 := coM_c hP (w := w) i
    have e4 := (coM_rp (m := m) (w := w) i).1
    have e5 := coM_6 (m := m) (w := w) i
    have hS : coM m w (i + 1) = if ri m (rp m 2 i) 7 = w ∧ (coM m w i).2 < 6 then (wi (wa (coM m w i).1 (rp m 257 (coM m w i).2) (cpf 8 (ri m (rp m 2 i)) (ri (coM m w i).1 (rp m 257 (coM m w i).2)))) 256 8 (ic ((coM m w i).2 + 1)), (coM m w i).2 + 1) else coM m w i := rfl
    have hkc := fun h => hP.kd (i := (coM m w i).2) h
    have hkr := fun h => hP.1 (coM m w i).2 h
    rw [HPlanner_collect_7, hS]
    generalize coM m w i = C at e1 e2 e3 e4 e5 hkc hkr ⊢
    obtain ⟨M, c⟩ := C
    dsimp only at e1 e2 e3 e4 e5 hkc hkr ⊢
    by_cases h1 : ri m (rp m 2 i) 7 = w
    · by_cases h2 : c < 6
      · rw [if_pos ⟨h1, h2⟩]
        have hk2 := hkc h2
        have hk3 := hkr h2
        have hk1' := hk1.2
        have hne : rp m 2 i ≠ rp m 257 c := by omega
        have hcp := fun (d N z : Nat) => c_jobCopy (n0 := n0) (S0 := S0) (G := G) (d := d) (N := N) (z := z) (m := M) hk2 hk hne
        have h256 : 256 ≠ rp m 257 c := by omega
        subst h1
        simp (disch := first | assumption | (show (_ : Nat) < _; omega) | (show (_ : Nat) ≠ _; omega) | (show (_ : Nat) ≤ _; omega) | exact Or.inl rfl | exact Or.inr rfl) only [hG0, hG1, hG2, hF0, hF1, hA0, hA1, xL, xC, icL, Option.bind_some, Nat.le_add_right, Nat.le_refl, if_true, if_false, and_self, true_and, and_true, or_false, false_or, or_true, true_or, and_false, false_and, not_true_eq_false, not_false_eq_true, Nat.reduceAdd, Nat.reduceLeDiff, Nat.reduceLT, Option.toList_some, Option.toList_none, List.cons_append, List.nil_append, callK_ret, callR_ret, callK_thr, decide_true, Bool.true_and, xNr, bI0, bIT, bIF, ne_eq, Classical.not_not, not_false_eq_true, false_or, List.length_nil, icM, ic_lt, ic_eq, le_nl, ↓reduceIte, Nat.lt_irrefl, ri_ws, ri_wn, ri_as, ri_an, upd_s, upd_n, rp_wi, rp_wa, rl_wi, rl_wa, rl_wp, rl_wpa, rl_wl, rp_wl, ri_wl, rp_wd, ri_wd, in_rng, Int32.lt_irrefl, Nat.not_lt_zero, pk_nc, Nat.reduceEqDiff, Nat.succ_ne_self, Nat.one_ne_zero, Nat.add_left_cancel_iff, ri_wpa, ri_wp, QPlanner_collect_0, QPlanner_collect_1, e1, hn, hi, e4, hk, e2, e3, h2, hcp, wi8, ic_add]
      · rw [if_neg (fun z => h2 z.2)]
        simp (disch := first | assumption | (show (_ : Nat) < _; omega) | (show (_ : Nat) ≠ _; omega) | (show (_ : Nat) ≤ _; omega) | exact Or.inl rfl | exact Or.inr rfl) only [hG0, hG1, hG2, hF0, hF1, hA0, hA1, xL, xC, icL, Option.bind_some, Nat.le_add_right, Nat.le_refl, if_true, if_false, and_self, true_and, and_true, or_false, false_or, or_true, true_or, and_false, false_and, not_true_eq_false, not_false_eq_true, Nat.reduceAdd, Nat.reduceLeDiff, Nat.reduceLT, Option.toList_some, Option.toList_none, List.cons_append, List.nil_append, callK_ret, callR_ret, callK_thr, decide_true, Bool.true_and, xNr, bI0, bIT, bIF, ne_eq, Classical.not_not, not_false_eq_true, false_or, List.length_nil, icM, ic_lt, ic_eq, le_nl, ↓reduceIte, Nat.lt_irrefl, ri_ws, ri_wn, ri_as, ri_an, upd_s, upd_n, rp_wi, rp_wa, rl_wi, rl_wa, rl_wp, rl_wpa, rl_wl, rp_wl, ri_wl, rp_wd, ri_wd, in_rng, Int32.lt_irrefl, Nat.not_lt_zero, pk_nc, Nat.reduceEqDiff, Nat.succ_ne_self, Nat.one_ne_zero, Nat.add_left_cancel_iff, ri_wpa, ri_wp, QPlanner_collect_0, QPlanner_collect_1, e1, hn, hi, e4, hk, e2, h1, e3, h2, ic_add]
    · rw [if_neg (fun z => h1 z.1)]
      simp (disch := first | assumption | (show (_ : Nat) < _; omega) | (show (_ : Nat) ≠ _; omega) | (show (_ : Nat) ≤ _; omega) | exact Or.inl rfl | exact Or.inr rfl) only [hG0, hG1, hG2, hF0, hF1, hA0, hA1, xL, xC, icL, Option.bind_some, Nat.le_add_right, Nat.le_refl, if_true, if_false, and_self, true_and, and_true, or_false, false_or, or_true, true_or, and_false, false_and, not_true_eq_false, not_false_eq_true, Nat.reduceAdd, Nat.reduceLeDiff, Nat.reduceLT, Option.toList_some, Option.toList_none, List.cons_append, List.nil_append, callK_ret, callR_ret, callK_thr, decide_true, Bool.true_and, xNr, bI0, bIT, bIF, ne_eq, Classical.not_not, not_false_eq_true, false_or, List.length_nil, icM, ic_lt, ic_eq, le_nl, ↓reduceIte, Nat.lt_irrefl, ri_ws, ri_wn, ri_as, ri_an, upd_s, upd_n, rp_wi, rp_wa, rl_wi, rl_wa, rl_wp, rl_wpa, rl_wl, rp_wl, ri_wl, rp_wd, ri_wd, in_rng, Int32.lt_irrefl, Nat.not_lt_zero, pk_nc, Nat.reduceEqDiff, Nat.succ_ne_self, Nat.one_ne_zero, Nat.add_left_cancel_iff, ri_wpa, ri_wp, QPlanner_collect_0, QPlanner_collect_1, e1, hn, hi, e4, hk, e2, h1, ic_add]
  refine (iter (fun i => Rx (n0, S0) (d + 1) 21 7 [some (.ref (n0 + 256)), some (.ref (n0 + 1)), some (.int w), some (.int (ic i))] [] (hp n0 G (coM m w i).1, N, z)) n step).trans ?_
  have e1 : ri (coM m w n).1 1 = ri m 1 := coM_o hP n (by decide) (by omega)
  rw [HPlanner_collect_7]
  simp (disch := first | assumption | (show (_ : Nat) < _; omega) | (show (_ : Nat) ≠ _; omega) | (show (_ : Nat) ≤ _; omega) | exact Or.inl rfl | exact Or.inr rfl) only [hG0, hG1, hG2, hF0, hF1, hA0, hA1, xL, xC, icL, Option.bind_some, Nat.le_add_right, Nat.le_refl, if_true, if_false, and_self, true_and, and_true, or_false, false_or, or_true, true_or, and_false, false_and, not_true_eq_false, not_false_eq_true, Nat.reduceAdd, Nat.reduceLeDiff, Nat.reduceLT, Option.toList_some, Option.toList_none, List.cons_append, List.nil_append, callK_ret, callR_ret, callK_thr, decide_true, Bool.true_and, xNr, bI0, bIT, bIF, ne_eq, Classical.not_not, not_false_eq_true, false_or, List.length_nil, icM, ic_lt, ic_eq, le_nl, ↓reduceIte, Nat.lt_irrefl, ri_ws, ri_wn, ri_as, ri_an, upd_s, upd_n, rp_wi, rp_wa, rl_wi, rl_wa, rl_wp, rl_wpa, rl_wl, rp_wl, ri_wl, rp_wd, ri_wd, in_rng, Int32.lt_irrefl, Nat.not_lt_zero, pk_nc, Nat.reduceEqDiff, Nat.succ_ne_self, Nat.one_ne_zero, Nat.add_left_cancel_iff, ri_wpa, ri_wp, QPlanner_collect_0, QPlanner_collect_1, e1, hn]
end C17
