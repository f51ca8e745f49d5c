/-! the class's Planner: choose; expanded by wip/whole/px.py out of wip/whole/c18.src -/
/-- a planner's state: fields, chosen, order, finishes, best order, best finishes -/
abbrev pS : Type := (Nat → Int32) × (Nat → Int32) × (Nat → Int32) × (Nat → Int32) × (Nat → Int32) × (Nat → Int32)
def pM (m : mm) (s : pS) : mm := psM m s.1 s.2.1 s.2.2.1 s.2.2.2.1 s.2.2.2.2.1 s.2.2.2.2.2
def kpS (s : pS) (late : Int32) : pS := if s.1 4 = ic 0 ∨ late < s.1 5 then (upd (upd s.1 4 (ic 1)) 5 late, s.2.1, s.2.2.1, s.2.2.2.1, cpf 6 s.2.2.1 s.2.2.2.2.1, cpf 6 s.2.2.2.1 s.2.2.2.2.2) else s
/-- when job j (its fields) is finished from x, y, c -/
def fnJ (j : Nat → Int32) (x y c : Int32) : Int32 := c + (aB (x - j 1) + aB (y - j 2)) + j 5
def ltJ (j : Nat → Int32) (fin : Int32) : Int32 := mX (fin - j 6) (ic 0)
/-- one place tried -/
def chP (J : Nat → Nat → Int32) (dp : Nat) (x y c late : Int32) (rec : Int32 → Int32 → Int32 → Int32 → pS → pS) (s : pS) (i : Nat) : pS :=
  if s.2.1 i = ic 0 then ((rec (J i 1) (J i 2) (fnJ (J i) x y c) (late + ltJ (J i) (fnJ (J i) x y c)) (s.1, upd s.2.1 i (ic 1), upd s.2.2.1 dp (J i 0), upd s.2.2.2.1 dp (fnJ (J i) x y c), s.2.2.2.2)).1, upd (rec (J i 1) (J i 2) (fnJ (J i) x y c) (late + ltJ (J i) (fnJ (J i) x y c)) (s.1, upd s.2.1 i (ic 1), upd s.2.2.1 dp (J i 0), upd s.2.2.2.1 dp (fnJ (J i) x y c), s.2.2.2.2)).2.1 i (ic 0), (rec (J i 1) (J i 2) (fnJ (J i) x y c) (late + ltJ (J i) (fnJ (J i) x y c)) (s.1, upd s.2.1 i (ic 1), upd s.2.2.1 dp (J i 0), upd s.2.2.2.1 dp (fnJ (J i) x y c), s.2.2.2.2)).2.2) else s
/-- the plans from depth dp on: r places are left of cnt, jobs J -/
def chF (J : Nat → Nat → Int32) (cnt : Nat) : Nat → Nat → Int32 → Int32 → Int32 → Int32 → pS → pS
  | 0, _, _, _, _, late, s => kpS s late
  | r + 1, dp, x, y, c, late, s => (List.range cnt).foldl (chP J dp x y c late (chF J cnt r (dp + 1))) s
section C18
variable {n0 N z d : Nat} {S0 : Nat → Value} {G : sH} {m : mm}
theorem kpS_8 (s : pS) (late : Int32) : (kpS s late).1 8 = s.1 8 := by
  unfold kpS
  split
  · show upd (upd s.1 4 (ic 1)) 5 late 8 = _
    rw [upd_n _ _ (by decide), upd_n _ _ (by decide)]
  · rfl
theorem foldl_inv {α β : Type} (P : α → Prop) (f : α → β → α) (h : ∀ a b, P a → P (f a b)) : ∀ (l : List β) (a : α), P a → P (l.foldl f a) := by
  intro l
  induction l with
  | nil => intro a ha; exact ha
  | cons b t ih => intro a ha; exact ih _ (h a b ha)
theorem chF_8 {J : Nat → Nat → Int32} {cnt : Nat} : ∀ r dp x y c late (s : pS), (chF J cnt r dp x y c late s).1 8 = s.1 8 := by
  intro r
  induction r with
  | zero => intro dp x y c late s; exact kpS_8 s late
  | succ r ih =>
    intro dp x y c late s
    unfold chF
    refine foldl_inv (fun (t : pS) => t.1 8 = s.1 8) _ ?_ _ _ rfl
    intro a i ha
    unfold chP
    split
    · show (chF _ _ _ _ _ _ _ _ _).1 8 = _
      rw [ih]
      exact ha
    · exact ha
/-- the jobs that the planner holds -/
def pJ (m : mm) (i : Nat) : Nat → Int32 := ri m (rp m 257 i)
theorem pM_J (hP : JP m) {s : pS} {i : Nat} (hi : i < 6) : ri (pM m s) (rp m 257 i) = ri m (rp m 257 i) := by
  have := hP.1 i hi
  unfold pM
  exact ps_o (by omega) (by omega) (by omega) (by omega) (by omega) (by omega)
theorem sNar1 : sNar .boolean (ic 1) = ic 1 ∧ sNar .boolean (ic 0) = ic 0 := ⟨rfl, rfl⟩
theorem c_choose (hP : JP m) {cnt : Nat} (h6 : cnt ≤ 6) : ∀ r dp x y c late (s : pS), dp + r = cnt → s.1 8 = ic cnt → ∀ d N z, Mt (n0, S0) (d + 2 * r + 3) 22 [.ref (n0 + 256), .int (ic dp), .int x, .int y, .int c, .int late] (hp n0 G (pM m s), N, z) = some (.inl none, (hp n0 G (pM m (chF (pJ m) cnt r dp x y c late s)), N, z)) := by
  have k256 : kd 256 = 10 := rfl
  have k257 : kd 257 = 11 := rfl
  have k258 : kd 258 = 12 := rfl
  have k259 : kd 259 = 5 := rfl
  have k260 : kd 260 = 5 := rfl
  intro r
  induction r with
  | zero =>
    intro dp x y c late s hd h8 d N z
    obtain rfl : dp = cnt := by omega
    have e8 : ri (pM m s) 256 8 = ic dp := by unfold pM; rw [ps_256]; exact h8
    have hk := c_keepIfBetter (n0 := n0) (S0 := S0) (G := G) (m := m) (d := d + 1) (N := N) (z := z) (g := s.1) (ch := s.2.1) (od := s.2.2.1) (fi := s.2.2.2.1) (bo := s.2.2.2.2.1) (bf := s.2.2.2.2.2) (late := late)
    have hk2 : Mt (n0, S0) (d + 2) 23 [.ref (n0 + 256), .int late] (hp n0 G (pM m s), N, z) = some (.inl none, (hp n0 G (pM m (kpS s late)), N, z)) := by
      refine hk.trans ?_
      unfold kpS pM
      split <;> rfl
    show Mt (n0, S0) (d + 3) _ _ _ = some (.inl none, (hp n0 G (pM m (kpS s late)), N, z))
    rw [NPlanner_choose]
    simp (disch := first | assumption | (show (_ : Nat) < _; omega) | (show (_ : Nat) ≠ _; omega) | (show (_ : Nat) ≤ _; omega) | exact Or.inl rfl | exact Or.inr rfl) only [hG0, hG1, hG2, hF0, hF1, hA0, hA1, xL, xC, icL, Option.bind_some, Nat.le_add_right, Nat.le_refl, if_true, if_false, and_self, true_and, and_true, or_false, false_or, or_true, true_or, and_false, false_and, not_true_eq_false, not_false_eq_true, Nat.reduceAdd, Nat.reduceLeDiff, Nat.reduceLT, Option.toList_some, Option.toList_none, List.cons_append, List.nil_append, callK_ret, callR_ret, callK_thr, decide_true, Bool.true_and, xNr, bI0, bIT, bIF, ne_eq, Classical.not_not, not_false_eq_true, false_or, List.length_nil, icM, ic_lt, ic_eq, le_nl, ↓reduceIte, Nat.lt_irrefl, ri_ws, ri_wn, ri_as, ri_an, upd_s, upd_n, rp_wi, rp_wa, rl_wi, rl_wa, rl_wp, rl_wpa, rl_wl, rp_wl, ri_wl, rp_wd, ri_wd, in_rng, Int32.lt_irrefl, Nat.not_lt_zero, pk_nc, Nat.reduceEqDiff, Nat.succ_ne_self, Nat.one_ne_zero, Nat.add_left_cancel_iff, ri_wpa, ri_wp, QPlanner_choose_0, QPlanner_choose_1, e8, hk2]
  | succ r ih =>
    intro dp x y c late s hd h8 d N z
    have hdc : dp < cnt := by omega
    have hd6 : dp < 6 := by omega
    have e8 : ri (pM m s) 256 8 = ic cnt := by unfold pM; rw [ps_256]; exact h8
    rw [show d + 2 * (r + 1) + 3 = d + 2 * r + 4 + 1 by omega]
    rw [NPlanner_choose]
    simp (disch := first | assumption | (show (_ : Nat) < _; omega) | (show (_ : Nat) ≠ _; omega) | (show (_ : Nat) ≤ _; omega) | exact Or.inl rfl | exact Or.inr rfl) only [hG0, hG1, hG2, hF0, hF1, hA0, hA1, xL, xC, icL, Option.bind_some, Nat.le_add_right, Nat.le_refl, if_true, if_false, and_self, true_and, and_true, or_false, false_or, or_true, true_or, and_false, false_and, not_true_eq_false, not_false_eq_true, Nat.reduceAdd, Nat.reduceLeDiff, Nat.reduceLT, Option.toList_some, Option.toList_none, List.cons_append, List.nil_append, callK_ret, callR_ret, callK_thr, decide_true, Bool.true_and, xNr, bI0, bIT, bIF, ne_eq, Classical.not_not, not_false_eq_true, false_or, List.length_nil, icM, ic_lt, ic_eq, le_nl, ↓reduceIte, Nat.lt_irrefl, ri_ws, ri_wn, ri_as, ri_an, upd_s, upd_n, rp_wi, rp_wa, rl_wi, rl_wa, rl_wp, rl_wpa, rl_wl, rp_wl, ri_wl, rp_wd, ri_wd, in_rng, Int32.lt_irrefl, Nat.not_lt_zero, pk_nc, Nat.reduceEqDiff, Nat.succ_ne_self, Nat.one_ne_zero, Nat.add_left_cancel_iff, ri_wpa, ri_wp, QPlanner_choose_0, QPlanner_choose_1, e8, hdc, hd6]
    have hR : ∀ i, (List.range (i + 1)).foldl (chP (pJ m) dp x y c late (chF (pJ m) cnt r (dp + 1))) s = chP (pJ m) dp x y c late (chF (pJ m) cnt r (dp + 1)) ((List.range i).foldl (chP (pJ m) dp x y c late (chF (pJ m) cnt r (dp + 1))) s) i := fun i => by
      rw [List.range_succ, List.foldl_append]
      rfl
    have h8' : ∀ i, ((List.range i).foldl (chP (pJ m) dp x y c late (chF (pJ m) cnt r (dp + 1))) s).1 8 = ic cnt := fun i => by
      refine foldl_inv (fun (t : pS) => t.1 8 = ic cnt) _ ?_ _ _ h8
      intro a i ha
      unfold chP
      split
      · show (chF _ _ _ _ _ _ _ _ _).1 8 = _
        rw [chF_8]
        exact ha
      · exact ha
    have step : ∀ i, i < cnt → Rx (n0, S0) (d + 2 * r + 4) 22 24 [some (.ref (n0 + 256)), some (.int (ic dp)), some (.int x), some (.int y), some (.int c), some (.int late), some (.int (ic i))] [] (hp n0 G (pM m ((List.range i).foldl (chP (pJ m) dp x y c late (chF (pJ m) cnt r (dp + 1))) s)), N, z) = Rx (n0, S0) (d + 2 * r + 4) 22 24 [some (.ref (n0 + 256)), some (.int (ic dp)), some (.int x), some (.int y), some (.int c), some (.int late), some (.int (ic (i + 1)))] [] (hp n0 G (pM m ((List.range (i + 1)).foldl (chP (pJ m) dp x y c late (chF (pJ m) cnt r (dp + 1))) s)), N, z) := by
      intro i hi
      have g8 := h8' i
      rw [hR i]
      generalize (List.range i).foldl (chP (pJ m) dp x y c late (chF (pJ m) cnt r (dp + 1))) s = t at g8 ⊢
      obtain ⟨g, ch, od, fi, bo, bf⟩ := t
      dsimp only at g8
      have hi6 : i < 6 := by omega
      have hk := hP.kd hi6
      have hkr := hP.1 i hi6
      by_cases h0 : ch i = ic 0
      · have e := fun N z => ih (dp + 1) (pJ m i 1) (pJ m i 2) (fnJ (pJ m i) x y c) (late + ltJ (pJ m i) (fnJ (pJ m i) x y c)) (g, upd ch i (ic 1), upd od dp (pJ m i 0), upd fi dp (fnJ (pJ m i) x y c), bo, bf) (by omega) g8 d N z
        have eP : chP (pJ m) dp x y c late (chF (pJ m) cnt r (dp + 1)) (g, ch, od, fi, bo, bf) i = _ := if_pos h0
        rw [eP]
        dsimp only
        generalize chF (pJ m) cnt r (dp + 1) (pJ m i 1) (pJ m i 2) (fnJ (pJ m i) x y c) (late + ltJ (pJ m i) (fnJ (pJ m i) x y c)) (g, upd ch i (ic 1), upd od dp (pJ m i 0), upd fi dp (fnJ (pJ m i) x y c), bo, bf) = u at e ⊢
        obtain ⟨g', ch', od', fi', bo', bf'⟩ := u
        unfold pM at e ⊢
        dsimp only at e ⊢
        have o1 : rp m 257 i ≠ 256 := by omega
        have o2 : rp m 257 i ≠ 258 := by omega
        have o3 : rp m 257 i ≠ 259 := by omega
        have o4 : rp m 257 i ≠ 260 := by omega
        have o5 : rp m 257 i ≠ 261 := by omega
        have o6 : rp m 257 i ≠ 262 := by omega
        have hps := fun (g ch od fi bo bf : Nat → Int32) => ps_o (m := m) (g := g) (ch := ch) (od := od) (fi := fi) (bo := bo) (bf := bf) o1 o2 o3 o4 o5 o6
        clear o1 o2 o3 o4 o5 o6 ih h8' hR hkr
        unfold ltJ fnJ pJ at e
        have hgo : ∀ N z, Mt (n0, S0) (d + 2 * r + 4) 24 [.ref (n0 + 256), .ref (n0 + rp m 257 i), .int (ic dp), .int (c + (aB (x - ri m (rp m 257 i) 1) + aB (y - ri m (rp m 257 i) 2)) + ri m (rp m 257 i) 5), .int late] (hp n0 G (psM m g (upd ch i (ic 1)) od fi bo bf), N, z) = some (.inl none, (hp n0 G (psM m g' ch' od' fi' bo' bf'), N, z)) := by
          intro N z
          show Mt (n0, S0) (d + 2 * r + 3 + 1) _ _ _ = _
          rw [NPlanner_goOnWith]
          simp (disch := first | assumption | (show (_ : Nat) < _; omega) | (show (_ : Nat) ≠ _; omega) | (show (_ : Nat) ≤ _; omega) | exact Or.inl rfl | exact Or.inr rfl) only [hG0, hG1, hG2, hF0, hF1, hA0, hA1, xL, xC, icL, Option.bind_some, Nat.le_add_right, Nat.le_refl, if_true, if_false, and_self, true_and, and_true, or_false, false_or, or_true, true_or, and_false, false_and, not_true_eq_false, not_false_eq_true, Nat.reduceAdd, Nat.reduceLeDiff, Nat.reduceLT, Option.toList_some, Option.toList_none, List.cons_append, List.nil_append, callK_ret, callR_ret, callK_thr, decide_true, Bool.true_and, xNr, bI0, bIT, bIF, ne_eq, Classical.not_not, not_false_eq_true, false_or, List.length_nil, icM, ic_lt, ic_eq, le_nl, ↓reduceIte, Nat.lt_irrefl, ri_ws, ri_wn, ri_as, ri_an, upd_s, upd_n, rp_wi, rp_wa, rl_wi, rl_wa, rl_wp, rl_wpa, rl_wl, rp_wl, ri_wl, rp_wd, ri_wd, in_rng, Int32.lt_irrefl, Nat.not_lt_zero, pk_nc, Nat.reduceEqDiff, Nat.succ_ne_self, Nat.one_ne_zero, Nat.add_left_cancel_iff, ri_wpa, ri_wp, QPlanner_goOnWith_0, QPlanner_goOnWith_1, ps_rp, hk, hps, ps_259, ps_260, ps_i259, ps_i260, c_latenessAt, e, ic_add]
        clear e
        rw [HPlanner_choose_24]
        simp (disch := first | assumption | (show (_ : Nat) < _; omega) | (show (_ : Nat) ≠ _; omega) | (show (_ : Nat) ≤ _; omega) | exact Or.inl rfl | exact Or.inr rfl) only [hG0, hG1, hG2, hF0, hF1, hA0, hA1, xL, xC, icL, Option.bind_some, Nat.le_add_right, Nat.le_refl, if_true, if_false, and_self, true_and, and_true, or_false, false_or, or_true, true_or, and_false, false_and, not_true_eq_false, not_false_eq_true, Nat.reduceAdd, Nat.reduceLeDiff, Nat.reduceLT, Option.toList_some, Option.toList_none, List.cons_append, List.nil_append, callK_ret, callR_ret, callK_thr, decide_true, Bool.true_and, xNr, bI0, bIT, bIF, ne_eq, Classical.not_not, not_false_eq_true, false_or, List.length_nil, icM, ic_lt, ic_eq, le_nl, ↓reduceIte, Nat.lt_irrefl, ri_ws, ri_wn, ri_as, ri_an, upd_s, upd_n, rp_wi, rp_wa, rl_wi, rl_wa, rl_wp, rl_wpa, rl_wl, rp_wl, ri_wl, rp_wd, ri_wd, in_rng, Int32.lt_irrefl, Nat.not_lt_zero, pk_nc, Nat.reduceEqDiff, Nat.succ_ne_self, Nat.one_ne_zero, Nat.add_left_cancel_iff, ri_wpa, ri_wp, QPlanner_choose_0, QPlanner_choose_1, ps_256, ps_258, g8, hi, h0, ps_rp, hk, hps, c_finishFrom, ps_i258, sNar1, hgo, ic_add]
      · have eP : chP (pJ m) dp x y c late (chF (pJ m) cnt r (dp + 1)) (g, ch, od, fi, bo, bf) i = _ := if_neg h0
        rw [eP]
        unfold pM
        dsimp only
        rw [HPlanner_choose_24]
        simp (disch := first | assumption | (show (_ : Nat) < _; omega) | (show (_ : Nat) ≠ _; omega) | (show (_ : Nat) ≤ _; omega) | exact Or.inl rfl | exact Or.inr rfl) only [hG0, hG1, hG2, hF0, hF1, hA0, hA1, xL, xC, icL, Option.bind_some, Nat.le_add_right, Nat.le_refl, if_true, if_false, and_self, true_and, and_true, or_false, false_or, or_true, true_or, and_false, false_and, not_true_eq_false, not_false_eq_true, Nat.reduceAdd, Nat.reduceLeDiff, Nat.reduceLT, Option.toList_some, Option.toList_none, List.cons_append, List.nil_append, callK_ret, callR_ret, callK_thr, decide_true, Bool.true_and, xNr, bI0, bIT, bIF, ne_eq, Classical.not_not, not_false_eq_true, false_or, List.length_nil, icM, ic_lt, ic_eq, le_nl, ↓reduceIte, Nat.lt_irrefl, ri_ws, ri_wn, ri_as, ri_an, upd_s, upd_n, rp_wi, rp_wa, rl_wi, rl_wa, rl_wp, rl_wpa, rl_wl, rp_wl, ri_wl, rp_wd, ri_wd, in_rng, Int32.lt_irrefl, Nat.not_lt_zero, pk_nc, Nat.reduceEqDiff, Nat.succ_ne_self, Nat.one_ne_zero, Nat.add_left_cancel_iff, ri_wpa, ri_wp, QPlanner_choose_0, QPlanner_choose_1, ps_256, ps_258, g8, hi, h0, ic_add]
    refine (iter (fun i => Rx (n0, S0) (d + 2 * r + 4) 22 24 [some (.ref (n0 + 256)), some (.int (ic dp)), some (.int x), some (.int y), some (.int c), some (.int late), some (.int (ic i))] [] (hp n0 G (pM m ((List.range i).foldl (chP (pJ m) dp x y c late (chF (pJ m) cnt r (dp + 1))) s)), N, z)) cnt step).trans ?_
    have g8 := h8' cnt
    show Rx _ _ _ _ _ _ (hp n0 G (pM m ((List.range cnt).foldl (chP (pJ m) dp x y c late (chF (pJ m) cnt r (dp + 1))) s)), N, z) = some (.inl none, (hp n0 G (pM m ((List.range cnt).foldl (chP (pJ m) dp x y c late (chF (pJ m) cnt r (dp + 1))) s)), N, z))
    generalize (List.range cnt).foldl (chP (pJ m) dp x y c late (chF (pJ m) cnt r (dp + 1))) s = t at g8 ⊢
    have e9 : ri (pM m t) 256 8 = ic cnt := by unfold pM; rw [ps_256]; exact g8
    rw [HPlanner_choose_24]
    simp (disch := first | assumption | (show (_ : Nat) < _; omega) | (show (_ : Nat) ≠ _; omega) | (show (_ : Nat) ≤ _; omega) | exact Or.inl rfl | exact Or.inr rfl) only [hG0, hG1, hG2, hF0, hF1, hA0, hA1, xL, xC, icL, Option.bind_some, Nat.le_add_right, Nat.le_refl, if_true, if_false, and_self, true_and, and_true, or_false, false_or, or_true, true_or, and_false, false_and, not_true_eq_false, not_false_eq_true, Nat.reduceAdd, Nat.reduceLeDiff, Nat.reduceLT, Option.toList_some, Option.toList_none, List.cons_append, List.nil_append, callK_ret, callR_ret, callK_thr, decide_true, Bool.true_and, xNr, bI0, bIT, bIF, ne_eq, Classical.not_not, not_false_eq_true, false_or, List.length_nil, icM, ic_lt, ic_eq, le_nl, ↓reduceIte, Nat.lt_irrefl, ri_ws, ri_wn, ri_as, ri_an, upd_s, upd_n, rp_wi, rp_wa, rl_wi, rl_wa, rl_wp, rl_wpa, rl_wl, rp_wl, ri_wl, rp_wd, ri_wd, in_rng, Int32.lt_irrefl, Nat.not_lt_zero, pk_nc, Nat.reduceEqDiff, Nat.succ_ne_self, Nat.one_ne_zero, Nat.add_left_cancel_iff, ri_wpa, ri_wp, QPlanner_choose_0, QPlanner_choose_1, e9]
end C18
