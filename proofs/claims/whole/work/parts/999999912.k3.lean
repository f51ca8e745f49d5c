/-! the making of the history, the planner, the program; expanded by px.py out of k3.src -/
/-- an array of references, filled to i -/
def arK (C : String) (n i : Nat) (e : Nat → Nat) : sC := .inl (.object C, (n, .inr (.inr (.inr (.inr (fun t => if t < i then some (e t) else none))))))
def stK : sC := .inr (6, [.null, .int (ic 0), .int (ic 0), .null, .null, .null, .int (ic 0), .long 0, .long 0])
def zA (n : Nat) : sC := .inl (.int, (n, .inl (fun _ => ic 0)))
section K3
variable {n0 N z d J i b : Nat} {S0 : Nat → Value} {G : sH} {f g : Nat → sC}
theorem bk_fill {C : String} {n c k v : Nat} {fs : List Value} {q : vw_C} {e : Nat → Nat} {i : Nat} (hk : k < J) (hv : v < J) (hvk : v ≠ k) (h2 : g v = .inr (c, fs)) (hq : gC[c]? = some q) (hC : q.1 = C) (hi : i < n) (hn : n < 2147483648) (he : e i = n0 + v) : astR (bk G n0 J (uC g k (arK C n i e))) (n0 + k) (ic i) (n0 + v) = some (bk G n0 J (uC g k (arK C n (i + 1) e))) := by
  subst hC
  refine bk_astR (c := c) (n := n) hk hv (uC_s _) ((uC_n _ hvk).trans h2) hq hi hn ?_ (fun t _ ht => by rw [uC_n _ ht, uC_n _ ht])
  rw [uC_s, ← he, va_up_l]
  rfl
theorem History_l (hS : ∀ i, i < 9 → ∀ o, o < 23 → g (49 + 23 * i + o) = zK n0 (49 + 23 * i) 12 3 6 o) (h47 : g 47 = .inr (2, [.ref (n0 + 48), .int (ic 0), .int (ic 0)])) (hi : i < 9) : Rx (n0, S0) (d + 2) 8 25 [some (.ref (n0 + 47)), some (.int (ic i))] [] (bk G n0 (49 + 23 * i) (uC g 48 (arK "RepairBarrows$State" 9 i (fun t => n0 + (49 + 23 * t)))), n0 + (49 + 23 * i), z) = Rx (n0, S0) (d + 2) 8 25 [some (.ref (n0 + 47)), some (.int (ic (i + 1)))] [] (bk G n0 (49 + (23 * i + 23)) (uC g 48 (arK "RepairBarrows$State" 9 (i + 1) (fun t => n0 + (49 + 23 * t)))), n0 + (49 + (23 * i + 23)), z + 157) := by
  have hgf : gf (bk G n0 (49 + 23 * i) (uC g 48 (arK "RepairBarrows$State" 9 i (fun t => n0 + (49 + 23 * t))))) (n0 + 47) 2 0 = some (.ref (n0 + 48)) := by
    rw [bk_gfu (by omega), uC_n _ (by decide), h47]
    rfl
  have hnew : hset (bk G n0 (49 + 23 * i) (uC g 48 (arK "RepairBarrows$State" 9 i (fun t => n0 + (49 + 23 * t))))) (n0 + (49 + 23 * i)) (.inr (6, [.null, .int (ic 0), .int (ic 0), .null, .null, .null, .int (ic 0), .long 0, .long 0])) = bk G n0 (49 + (23 * i + 1)) (uC (uC g 48 (arK "RepairBarrows$State" 9 i (fun t => n0 + (49 + 23 * t)))) (49 + 23 * i) stK) := bk_newu _
  have hin := fun z => c_State_init (n0 := n0) (S0 := S0) (G := G) (d := d) (z := z) (b := 49 + 23 * i) (f := uC (uC g 48 (arK "RepairBarrows$State" 9 i (fun t => n0 + (49 + 23 * t)))) (49 + 23 * i) stK) (g := uC g 48 (arK "RepairBarrows$State" 9 i (fun t => n0 + (49 + 23 * t)))) (uC_s _) (fun k hk => (uC_n _ (by omega)).symm) (fun o ho => by rw [uC_n _ (by omega)]; exact hS i hi o ho)
  rw [show 49 + 23 * i + 1 = 49 + (23 * i + 1) by omega, show 49 + 23 * i + 23 = 49 + (23 * i + 23) by omega] at hin
  have hst : astR (bk G n0 (49 + (23 * i + 23)) (uC g 48 (arK "RepairBarrows$State" 9 i (fun t => n0 + (49 + 23 * t))))) (n0 + 48) (ic i) (n0 + (49 + 23 * i)) = some (bk G n0 (49 + (23 * i + 23)) (uC g 48 (arK "RepairBarrows$State" 9 (i + 1) (fun t => n0 + (49 + 23 * t))))) := bk_fill (by omega) (by omega) (by omega) (hS i hi 0 (by decide)) rfl rfl hi (by decide) rfl
  rw [HHistory_init_25]
  simp (disch := first | assumption | (show (_ : Nat) < _; omega) | (show (_ : Nat) ≠ _; omega) | (show (_ : Nat) ≤ _; omega) | exact Or.inl rfl | exact Or.inr rfl) only [hG0, hG1, hG2, hF0, hF1, hA0, hA1, xL, xC, icL, Option.bind_some, Nat.le_add_right, Nat.le_refl, if_true, if_false, and_self, true_and, and_true, or_false, false_or, or_true, true_or, and_false, false_and, not_true_eq_false, not_false_eq_true, Nat.reduceAdd, Nat.reduceLeDiff, Nat.reduceLT, Option.toList_some, Option.toList_none, List.cons_append, List.nil_append, callK_ret, callR_ret, callK_thr, decide_true, Bool.true_and, xNr, bI0, bIT, bIF, ne_eq, Classical.not_not, not_false_eq_true, false_or, List.length_nil, icM, ic_lt, ic_eq, le_nl, ↓reduceIte, Nat.lt_irrefl, ri_ws, ri_wn, ri_as, ri_an, upd_s, upd_n, rp_wi, rp_wa, rl_wi, rl_wa, rl_wp, rl_wpa, rl_wl, rp_wl, ri_wl, rp_wd, ri_wd, in_rng, Int32.lt_irrefl, Nat.not_lt_zero, pk_nc, Nat.reduceEqDiff, Nat.succ_ne_self, Nat.one_ne_zero, Nat.add_left_cancel_iff, ri_wpa, ri_wp, QHistory_init_0, QHistory_init_1, hgf, hnew, hin, hst, hi, Nat.add_assoc, ic_add]
theorem c_History_init (hf : f 47 = .inr (2, [.null, .int (ic 0), .int (ic 0)])) (hg : ∀ k, k < 47 → g k = f k) (h47 : g 47 = .inr (2, [.ref (n0 + 48), .int (ic 0), .int (ic 0)])) (h48 : g 48 = arK "RepairBarrows$State" 9 9 (fun t => n0 + (49 + 23 * t))) (hS : ∀ i, i < 9 → ∀ o, o < 23 → g (49 + 23 * i + o) = zK n0 (49 + 23 * i) 12 3 6 o) : Mt (n0, S0) (d + 3) 8 [.ref (n0 + 47)] (bk G n0 48 f, n0 + 48, z) = some (.inl none, (bk G n0 256 g, n0 + 256, z + 1422)) := by
  have step : ∀ (h : Nat → sC), (∀ k, k < 49 → h k = uC g 48 (arK "RepairBarrows$State" 9 0 (fun t => n0 + (49 + 23 * t))) k) → Rx (n0, S0) (d + 2) 8 25 [some (.ref (n0 + 47)), some (.int (ic 0))] [] (bk G n0 49 h, n0 + 49, z + 9) = some (.inl none, (bk G n0 256 g, n0 + 256, z + 1422)) := fun h hh => by
    rw [bk_ext hh]
    have r1 := iter (fun i => Rx (n0, S0) (d + 2) 8 25 [some (.ref (n0 + 47)), some (.int (ic i))] [] (bk G n0 (49 + 23 * i) (uC g 48 (arK "RepairBarrows$State" 9 i (fun t => n0 + (49 + 23 * t)))), n0 + (49 + 23 * i), z + 9 + 157 * i)) 9 (fun i hi => by
      have := History_l (d := d) (S0 := S0) (G := G) (z := z + 9 + 157 * i) hS h47 hi
      rw [show 49 + (23 * i + 23) = 49 + 23 * (i + 1) by omega, show z + 9 + 157 * i + 157 = z + 9 + 157 * (i + 1) by omega] at this
      exact this)
    refine r1.trans ?_
    have e : bk G n0 256 (uC g 48 (arK "RepairBarrows$State" 9 9 (fun t => n0 + (49 + 23 * t)))) = bk G n0 256 g := bk_ext (fun k _ => by
      by_cases hk : k = 48
      · rw [hk, uC_s, h48]
      · rw [uC_n _ hk])
    show Rx (n0, S0) (d + 2) 8 25 [some (.ref (n0 + 47)), some (.int (ic 9))] [] (bk G n0 256 (uC g 48 (arK "RepairBarrows$State" 9 9 (fun t => n0 + (49 + 23 * t)))), n0 + 256, z + 1422) = _
    rw [e, HHistory_init_25]
    simp (disch := first | assumption | (show (_ : Nat) < _; omega) | (show (_ : Nat) ≠ _; omega) | (show (_ : Nat) ≤ _; omega) | exact Or.inl rfl | exact Or.inr rfl) only [hG0, hG1, hG2, hF0, hF1, hA0, hA1, xL, xC, icL, Option.bind_some, Nat.le_add_right, Nat.le_refl, if_true, if_false, and_self, true_and, and_true, or_false, false_or, or_true, true_or, and_false, false_and, not_true_eq_false, not_false_eq_true, Nat.reduceAdd, Nat.reduceLeDiff, Nat.reduceLT, Option.toList_some, Option.toList_none, List.cons_append, List.nil_append, callK_ret, callR_ret, callK_thr, decide_true, Bool.true_and, xNr, bI0, bIT, bIF, ne_eq, Classical.not_not, not_false_eq_true, false_or, List.length_nil, icM, ic_lt, ic_eq, le_nl, ↓reduceIte, Nat.lt_irrefl, ri_ws, ri_wn, ri_as, ri_an, upd_s, upd_n, rp_wi, rp_wa, rl_wi, rl_wa, rl_wp, rl_wpa, rl_wl, rp_wl, ri_wl, rp_wd, ri_wd, in_rng, Int32.lt_irrefl, Nat.not_lt_zero, pk_nc, Nat.reduceEqDiff, Nat.succ_ne_self, Nat.one_ne_zero, Nat.add_left_cancel_iff, ri_wpa, ri_wp, QHistory_init_0, QHistory_init_1]
  rw [NHistory_init]
  simp (disch := first | assumption | (show (_ : Nat) < _; omega) | (show (_ : Nat) ≠ _; omega) | (show (_ : Nat) ≤ _; omega) | exact Or.inl rfl | exact Or.inr rfl) only [hG0, hG1, hG2, hF0, hF1, hA0, hA1, xL, xC, icL, Option.bind_some, Nat.le_add_right, Nat.le_refl, if_true, if_false, and_self, true_and, and_true, or_false, false_or, or_true, true_or, and_false, false_and, not_true_eq_false, not_false_eq_true, Nat.reduceAdd, Nat.reduceLeDiff, Nat.reduceLT, Option.toList_some, Option.toList_none, List.cons_append, List.nil_append, callK_ret, callR_ret, callK_thr, decide_true, Bool.true_and, xNr, bI0, bIT, bIF, ne_eq, Classical.not_not, not_false_eq_true, false_or, List.length_nil, icM, ic_lt, ic_eq, le_nl, ↓reduceIte, Nat.lt_irrefl, ri_ws, ri_wn, ri_as, ri_an, upd_s, upd_n, rp_wi, rp_wa, rl_wi, rl_wa, rl_wp, rl_wpa, rl_wl, rp_wl, ri_wl, rp_wd, ri_wd, in_rng, Int32.lt_irrefl, Nat.not_lt_zero, pk_nc, Nat.reduceEqDiff, Nat.succ_ne_self, Nat.one_ne_zero, Nat.add_left_cancel_iff, ri_wpa, ri_wp, QHistory_init_0, QHistory_init_1, ic_nat, bk_newu, bk_pfu, hf, pfc_o, uC_s, uC_n, uC_u, List.set_cons_zero, List.set_cons_succ, List.length_cons, Option.map_some, Nat.reduceMul, Nat.add_assoc]
  refine step _ (fun k hk => ?_)
  by_cases h8 : k = 48
  · subst h8
    simp [uC, arK]
  · by_cases h7 : k = 47
    · subst h7
      simp [uC, h47]
    · simp [uC, h8, h7, hg k (by omega)]
theorem Planner_l (h256 : ∃ a b c v, g 256 = .inr (4, .ref (n0 + 257) :: a :: b :: c :: v)) (hJ : ∀ t, t < 6 → g (263 + t) = jbK) (hi : i < 6) : Rx (n0, S0) (d + 1) 19 70 [some (.ref (n0 + 256)), some (.int (ic i))] [] (bk G n0 (263 + i) (uC g 257 (arK "RepairBarrows$Job" 6 i (fun t => n0 + (263 + t)))), n0 + (263 + i), z) = Rx (n0, S0) (d + 1) 19 70 [some (.ref (n0 + 256)), some (.int (ic (i + 1)))] [] (bk G n0 (263 + (i + 1)) (uC g 257 (arK "RepairBarrows$Job" 6 (i + 1) (fun t => n0 + (263 + t)))), n0 + (263 + (i + 1)), z + 8) := by
  have hgf : gf (bk G n0 (263 + i) (uC g 257 (arK "RepairBarrows$Job" 6 i (fun t => n0 + (263 + t))))) (n0 + 256) 4 0 = some (.ref (n0 + 257)) := by
    obtain ⟨a, b, c, v, h⟩ := h256
    rw [bk_gfu (by omega), uC_n _ (by decide), h]
    rfl
  have hnew : hset (bk G n0 (263 + i) (uC g 257 (arK "RepairBarrows$Job" 6 i (fun t => n0 + (263 + t))))) (n0 + (263 + i)) (.inr (3, [.int (ic 0), .int (ic 0), .int (ic 0), .int (ic 0), .int (ic 0), .int (ic 0), .int (ic 0), .int (ic 0)])) = bk G n0 (263 + (i + 1)) (uC (uC g 257 (arK "RepairBarrows$Job" 6 i (fun t => n0 + (263 + t)))) (263 + i) j0K) := bk_newu _
  have hin := fun N z => c_Job_init (n0 := n0) (S0 := S0) (G := G) (d := d) (N := N) (z := z) (b := 263 + i) (g := uC g 257 (arK "RepairBarrows$Job" 6 i (fun t => n0 + (263 + t)))) ((uC_n _ (by omega)).trans (hJ i hi))
  rw [show 263 + i + 1 = 263 + (i + 1) by omega] at hin
  have hst : astR (bk G n0 (263 + (i + 1)) (uC g 257 (arK "RepairBarrows$Job" 6 i (fun t => n0 + (263 + t))))) (n0 + 257) (ic i) (n0 + (263 + i)) = some (bk G n0 (263 + (i + 1)) (uC g 257 (arK "RepairBarrows$Job" 6 (i + 1) (fun t => n0 + (263 + t))))) := bk_fill (by omega) (by omega) (by omega) (hJ i hi) rfl rfl hi (by decide) rfl
  rw [HPlanner_init_70]
  simp (disch := first | assumption | (show (_ : Nat) < _; omega) | (show (_ : Nat) ≠ _; omega) | (show (_ : Nat) ≤ _; omega) | exact Or.inl rfl | exact Or.inr rfl) only [hG0, hG1, hG2, hF0, hF1, hA0, hA1, xL, xC, icL, Option.bind_some, Nat.le_add_right, Nat.le_refl, if_true, if_false, and_self, true_and, and_true, or_false, false_or, or_true, true_or, and_false, false_and, not_true_eq_false, not_false_eq_true, Nat.reduceAdd, Nat.reduceLeDiff, Nat.reduceLT, Option.toList_some, Option.toList_none, List.cons_append, List.nil_append, callK_ret, callR_ret, callK_thr, decide_true, Bool.true_and, xNr, bI0, bIT, bIF, ne_eq, Classical.not_not, not_false_eq_true, false_or, List.length_nil, icM, ic_lt, ic_eq, le_nl, ↓reduceIte, Nat.lt_irrefl, ri_ws, ri_wn, ri_as, ri_an, upd_s, upd_n, rp_wi, rp_wa, rl_wi, rl_wa, rl_wp, rl_wpa, rl_wl, rp_wl, ri_wl, rp_wd, ri_wd, in_rng, Int32.lt_irrefl, Nat.not_lt_zero, pk_nc, Nat.reduceEqDiff, Nat.succ_ne_self, Nat.one_ne_zero, Nat.add_left_cancel_iff, ri_wpa, ri_wp, QPlanner_init_0, QPlanner_init_1, QPlanner_init_2, hgf, hnew, hin, hst, hi, Nat.add_assoc, ic_add]
theorem c_Planner_init (hf : f 256 = .inr (4, [.null, .null, .null, .null, .int (ic 0), .int (ic 0), .null, .null, .int (ic 0)])) (hg : ∀ k, k < 256 → g k = f k) (h256 : g 256 = .inr (4, [.ref (n0 + 257), .ref (n0 + 258), .ref (n0 + 259), .ref (n0 + 260), .int (ic 0), .int (ic 0), .ref (n0 + 261), .ref (n0 + 262), .int (ic 0)])) (h257 : g 257 = arK "RepairBarrows$Job" 6 6 (fun t => n0 + (263 + t))) (h258 : g 258 = .inl (.boolean, (6, .inl (fun _ => ic 0)))) (hz : ∀ t, t < 4 → g (259 + t) = zA 6) (hJ : ∀ t, t < 6 → g (263 + t) = jbK) : Mt (n0, S0) (d + 2) 19 [.ref (n0 + 256)] (bk G n0 257 f, n0 + 257, z) = some (.inl none, (bk G n0 269 g, n0 + 269, z + 84)) := by
  have hcb : componentBytes .int = 4 := rfl
  have hcz : componentBytes .boolean = 1 := rfl
  have step : ∀ (h : Nat → sC), (∀ k, k < 263 → h k = uC g 257 (arK "RepairBarrows$Job" 6 0 (fun t => n0 + (263 + t))) k) → Rx (n0, S0) (d + 1) 19 70 [some (.ref (n0 + 256)), some (.int (ic 0))] [] (bk G n0 263 h, n0 + 263, z + 36) = some (.inl none, (bk G n0 269 g, n0 + 269, z + 84)) := fun h hh => by
    rw [bk_ext hh]
    have r1 := iter (fun i => Rx (n0, S0) (d + 1) 19 70 [some (.ref (n0 + 256)), some (.int (ic i))] [] (bk G n0 (263 + i) (uC g 257 (arK "RepairBarrows$Job" 6 i (fun t => n0 + (263 + t)))), n0 + (263 + i), z + 36 + 8 * i)) 6 (fun i hi => Planner_l ⟨_, _, _, _, h256⟩ hJ hi)
    refine r1.trans ?_
    have e : bk G n0 269 (uC g 257 (arK "RepairBarrows$Job" 6 6 (fun t => n0 + (263 + t)))) = bk G n0 269 g := bk_ext (fun k _ => by
      by_cases hk : k = 257
      · rw [hk, uC_s, h257]
      · rw [uC_n _ hk])
    show Rx (n0, S0) (d + 1) 19 70 [some (.ref (n0 + 256)), some (.int (ic 6))] [] (bk G n0 269 (uC g 257 (arK "RepairBarrows$Job" 6 6 (fun t => n0 + (263 + t)))), n0 + 269, z + 84) = _
    rw [e, HPlanner_init_70]
    simp (disch := first | assumption | (show (_ : Nat) < _; omega) | (show (_ : Nat) ≠ _; omega) | (show (_ : Nat) ≤ _; omega) | exact Or.inl rfl | exact Or.inr rfl) only [hG0, hG1, hG2, hF0, hF1, hA0, hA1, xL, xC, icL, Option.bind_some, Nat.le_add_right, Nat.le_refl, if_true, if_false, and_self, true_and, and_true, or_false, false_or, or_true, true_or, and_false, false_and, not_true_eq_false, not_false_eq_true, Nat.reduceAdd, Nat.reduceLeDiff, Nat.reduceLT, Option.toList_some, Option.toList_none, List.cons_append, List.nil_append, callK_ret, callR_ret, callK_thr, decide_true, Bool.true_and, xNr, bI0, bIT, bIF, ne_eq, Classical.not_not, not_false_eq_true, false_or, List.length_nil, icM, ic_lt, ic_eq, le_nl, ↓reduceIte, Nat.lt_irrefl, ri_ws, ri_wn, ri_as, ri_an, upd_s, upd_n, rp_wi, rp_wa, rl_wi, rl_wa, rl_wp, rl_wpa, rl_wl, rp_wl, ri_wl, rp_wd, ri_wd, in_rng, Int32.lt_irrefl, Nat.not_lt_zero, pk_nc, Nat.reduceEqDiff, Nat.succ_ne_self, Nat.one_ne_zero, Nat.add_left_cancel_iff, ri_wpa, ri_wp, QPlanner_init_0, QPlanner_init_1, QPlanner_init_2]
  rw [NPlanner_init]
  simp (disch := first | assumption | (show (_ : Nat) < _; omega) | (show (_ : Nat) ≠ _; omega) | (show (_ : Nat) ≤ _; omega) | exact Or.inl rfl | exact Or.inr rfl) only [hG0, hG1, hG2, hF0, hF1, hA0, hA1, xL, xC, icL, Option.bind_some, Nat.le_add_right, Nat.le_refl, if_true, if_false, and_self, true_and, and_true, or_false, false_or, or_true, true_or, and_false, false_and, not_true_eq_false, not_false_eq_true, Nat.reduceAdd, Nat.reduceLeDiff, Nat.reduceLT, Option.toList_some, Option.toList_none, List.cons_append, List.nil_append, callK_ret, callR_ret, callK_thr, decide_true, Bool.true_and, xNr, bI0, bIT, bIF, ne_eq, Classical.not_not, not_false_eq_true, false_or, List.length_nil, icM, ic_lt, ic_eq, le_nl, ↓reduceIte, Nat.lt_irrefl, ri_ws, ri_wn, ri_as, ri_an, upd_s, upd_n, rp_wi, rp_wa, rl_wi, rl_wa, rl_wp, rl_wpa, rl_wl, rp_wl, ri_wl, rp_wd, ri_wd, in_rng, Int32.lt_irrefl, Nat.not_lt_zero, pk_nc, Nat.reduceEqDiff, Nat.succ_ne_self, Nat.one_ne_zero, Nat.add_left_cancel_iff, ri_wpa, ri_wp, QPlanner_init_0, QPlanner_init_1, QPlanner_init_2, hcb, hcz, ic_nat, bk_newu, bk_pfu, hf, pfc_o, uC_s, uC_n, uC_u, List.set_cons_zero, List.set_cons_succ, List.length_cons, Option.map_some, Nat.reduceMul, Nat.add_assoc]
  refine step _ (fun k hk => ?_)
  have z0 := hz 0 (by decide)
  have z1 := hz 1 (by decide)
  have z2 := hz 2 (by decide)
  have z3 := hz 3 (by decide)
  rcases (by omega : k < 256 ∨ k = 256 ∨ k = 257 ∨ k = 258 ∨ k = 259 ∨ k = 260 ∨ k = 261 ∨ k = 262) with h | rfl | rfl | rfl | rfl | rfl | rfl | rfl
  · have a0 : k ≠ 256 := by omega
    have a1 : k ≠ 257 := by omega
    have a2 : k ≠ 258 := by omega
    have a3 : k ≠ 259 := by omega
    have a4 : k ≠ 260 := by omega
    have a5 : k ≠ 261 := by omega
    have a6 : k ≠ 262 := by omega
    simp [uC, a0, a1, a2, a3, a4, a5, a6, hg k h]
  · simp [uC, h256]
  · simp [uC, arK]
  · simp [uC, h258]
  · simp [uC]; exact z0.symm
  · simp [uC]; exact z1.symm
  · simp [uC]; exact z2.symm
  · simp [uC]; exact z3.symm
theorem c_Command_init {v : Nat} (hv : S0 5 = .ref v) (hf : f b = .inr (1, [.null, .null])) (hg0 : g b = .inr (1, [.ref v, .ref (n0 + (b + 1))])) (hg1 : g (b + 1) = zA 6) (hg : ∀ k, k < b → g k = f k) : Mt (n0, S0) (d + 1) 7 [.ref (n0 + b)] (bk G n0 (b + 1) f, n0 + (b + 1), z) = some (.inl none, (bk G n0 (b + 2) g, n0 + (b + 2), z + 6)) := by
  have hcb : componentBytes .int = 4 := rfl
  have e : ∀ h : Nat → sC, (∀ k, k < b + 2 → h k = g k) → bk G n0 (b + 2) h = bk G n0 (b + 2) g := fun h hh => bk_ext hh
  rw [NCommand_init]
  simp (disch := first | assumption | (show (_ : Nat) < _; omega) | (show (_ : Nat) ≠ _; omega) | (show (_ : Nat) ≤ _; omega) | exact Or.inl rfl | exact Or.inr rfl) only [hG0, hG1, hG2, hF0, hF1, hA0, hA1, xL, xC, icL, Option.bind_some, Nat.le_add_right, Nat.le_refl, if_true, if_false, and_self, true_and, and_true, or_false, false_or, or_true, true_or, and_false, false_and, not_true_eq_false, not_false_eq_true, Nat.reduceAdd, Nat.reduceLeDiff, Nat.reduceLT, Option.toList_some, Option.toList_none, List.cons_append, List.nil_append, callK_ret, callR_ret, callK_thr, decide_true, Bool.true_and, xNr, bI0, bIT, bIF, ne_eq, Classical.not_not, not_false_eq_true, false_or, List.length_nil, icM, ic_lt, ic_eq, le_nl, ↓reduceIte, Nat.lt_irrefl, ri_ws, ri_wn, ri_as, ri_an, upd_s, upd_n, rp_wi, rp_wa, rl_wi, rl_wa, rl_wp, rl_wpa, rl_wl, rp_wl, ri_wl, rp_wd, ri_wd, in_rng, Int32.lt_irrefl, Nat.not_lt_zero, pk_nc, Nat.reduceEqDiff, Nat.succ_ne_self, Nat.one_ne_zero, Nat.add_left_cancel_iff, ri_wpa, ri_wp, QCommand_init_0, hcb, hv, ic_nat, bk_newu, bk_pfu, hf, pfc_o, uC_s, uC_n, uC_u, List.set_cons_zero, List.set_cons_succ, List.length_cons, Option.map_some, Nat.reduceMul, Nat.add_assoc]
  rw [e _ (fun k hk => ?_)]
  rcases (by omega : k < b ∨ k = b ∨ k = b + 1) with h | rfl | rfl
  · have a0 : k ≠ b := by omega
    have a1 : k ≠ b + 1 := by omega
    simp [uC, a0, a1, hg k h]
  · simp [uC, hg0]
  · simp [uC]; exact hg1.symm
end K3
