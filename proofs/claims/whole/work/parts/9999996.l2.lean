/-! the cases of the law's switch; written by wip/whole/gen_l2.py, expanded by px.py out of l2.src -/
/-- from a place of the law's loop to the loop's step -/
def Lc (n0 : Nat) (S0 : Nat → Value) (N0 z0 q s p pc : Nat) (l6 l7 l8 l9 : Option Value) (G : sH) (m : mm) (N z : Nat) : Prop :=
  ∃ G1 m1 N1 z1 r6 r7 r8 r9, (Rx (n0, S0) 41 290 pc [some (.ref s), some (.ref n0), some (.ref (n0 + 292)), some (.ref (n0 + 303)), some (.ref (n0 + 304)), some (.int (ic (7 * p))), l6, l7, l8, l9] [] (hp n0 G m, N, z) = Rx (n0, S0) 41 290 3001 [some (.ref s), some (.ref n0), some (.ref (n0 + 292)), some (.ref (n0 + 303)), some (.ref (n0 + 304)), some (.int (ic (7 * p))), r6, r7, r8, r9] [] (hp n0 G1 m1, N1, z1)) ∧ (∀ x, x < n0 → G1 x = G x) ∧ Inv n0 N0 z0 (q + 1) G1 m1 N1 z1
/-- what the script holds, at every state that keeps it -/
def Scr (n0 s len : Nat) (sc : Nat → Int32) (G : sH) : Prop := ∀ (G' : sH) (m' : mm), (∀ x, x < n0 → G' x = G x) → ∀ j, j < len → aldI .int (hp n0 G' m') s (ic j) = some (.int (sc j))
theorem lgs (x : Int64) : lg_cmp x x = 0 := by
  unfold lg_cmp
  simp
theorem sNar_c (x : Int32) : sNar .char (x.toUInt32 % 65536).toInt32 = (x.toUInt32 % 65536).toInt32 := by
  show (((x.toUInt32 % 65536).toInt32).toUInt32 % 65536).toInt32 = _
  have e : ((x.toUInt32 % 65536).toInt32).toUInt32 = x.toUInt32 % 65536 := rfl
  rw [e]
  congr 1
  apply UInt32.toNat.inj
  rw [UInt32.toNat_mod, UInt32.toNat_mod]
  exact Nat.mod_mod _ _
section L2a
variable {n0 N z N0 z0 q s p len : Nat} {S0 : Nat → Value} {G : sH} {m : mm} {sc : Nat → Int32} {l6 l7 l8 l9 : Option Value}
theorem L_addJob (hI : Inv n0 N0 z0 q G m N z) (hq : q ≤ 512) (hS : Sta n0 S0 G) (hs : Scr n0 s len sc G) (h7 : 7 * p + 7 ≤ len) : Lc n0 S0 N0 z0 q s p 264 l6 l7 l8 l9 G m N z := by
  have k303 : kd 303 = 25 := rfl
  have k304 : kd 304 = 26 := rfl
  have k292 : kd 292 = 18 := rfl
  have hs0 := hs G m (fun _ _ => rfl)
  obtain ⟨k, G1, m1, N1, z1, v, m2, hk, h1, hG, h2, h3, h4, h5⟩ := W_addJob (P_addJob (S0 := S0) (x := (sc (7 * p + 1))) (y := (sc (7 * p + 2))) (k := (((sc (7 * p + 3)).toUInt32 % 65536).toInt32)) (t := (sc (7 * p + 4))) (w := (sc (7 * p + 5))) (u := (sc (7 * p + 6))) hI hq)
  have hs1 := hs G1 m1 hG
  have hth : Mt (n0, S0) 41 128 [.ref (n0 + 292)] (hp n0 G1 m2, N1, z1) = _ := m_thrown (n0 := n0) (S0 := S0) (G := G1) (N := N1) (z := z1) (m := m2) (d := 40)
  rw [h3] at hth
  by_cases hk0 : k = 0
  · subst hk0
    have h4 := h4 rfl
    refine ⟨G1, m2, N1, z1, some (.int (ic 0)), some (.int v), l8, l9, ?_, hG, h5⟩
    simp (disch := first | assumption | (show (_ : Nat) < _; omega) | (show (_ : Nat) ≠ _; omega) | (show (_ : Nat) ≤ _; omega) | exact Or.inl rfl | exact Or.inr rfl) only [hG0, hG1, hG2, hF0, hF1, hA0, hA1, xL, xC, icL, Option.bind_some, Nat.le_add_right, Nat.le_refl, if_true, if_false, and_self, true_and, and_true, or_false, false_or, or_true, true_or, and_false, false_and, not_true_eq_false, not_false_eq_true, Nat.reduceAdd, Nat.reduceLeDiff, Nat.reduceLT, Option.toList_some, Option.toList_none, List.cons_append, List.nil_append, callK_ret, callR_ret, callK_thr, decide_true, Bool.true_and, xNr, bI0, bIT, bIF, ne_eq, Classical.not_not, not_false_eq_true, false_or, List.length_nil, icM, ic_lt, ic_eq, le_nl, ↓reduceIte, Nat.lt_irrefl, ri_ws, ri_wn, ri_as, ri_an, upd_s, upd_n, rp_wi, rp_wa, rl_wi, rl_wa, rl_wp, rl_wpa, rl_wl, rp_wl, ri_wl, rp_wd, ri_wd, in_rng, Int32.lt_irrefl, Nat.not_lt_zero, pk_nc, Nat.reduceEqDiff, Nat.succ_ne_self, Nat.one_ne_zero, Nat.add_left_cancel_iff, ri_wpa, ri_wp, QLaw_law_2, QLaw_law_3, QLaw_law_4, QLaw_law_5, QLaw_law_6, hs0, hs1, h1, h2, hth, h4, lgs, ic_add]
  · have hkn : ¬ ic k = ic 0 := fun y => hk0 (by rw [ic_eq (by omega) (by omega)] at y; exact y)
    refine ⟨G1, m2, N1, z1, some (.int (ic k)), some (.int v), l8, l9, ?_, hG, h5⟩
    simp (disch := first | assumption | (show (_ : Nat) < _; omega) | (show (_ : Nat) ≠ _; omega) | (show (_ : Nat) ≤ _; omega) | exact Or.inl rfl | exact Or.inr rfl) only [hG0, hG1, hG2, hF0, hF1, hA0, hA1, xL, xC, icL, Option.bind_some, Nat.le_add_right, Nat.le_refl, if_true, if_false, and_self, true_and, and_true, or_false, false_or, or_true, true_or, and_false, false_and, not_true_eq_false, not_false_eq_true, Nat.reduceAdd, Nat.reduceLeDiff, Nat.reduceLT, Option.toList_some, Option.toList_none, List.cons_append, List.nil_append, callK_ret, callR_ret, callK_thr, decide_true, Bool.true_and, xNr, bI0, bIT, bIF, ne_eq, Classical.not_not, not_false_eq_true, false_or, List.length_nil, icM, ic_lt, ic_eq, le_nl, ↓reduceIte, Nat.lt_irrefl, ri_ws, ri_wn, ri_as, ri_an, upd_s, upd_n, rp_wi, rp_wa, rl_wi, rl_wa, rl_wp, rl_wpa, rl_wl, rp_wl, ri_wl, rp_wd, ri_wd, in_rng, Int32.lt_irrefl, Nat.not_lt_zero, pk_nc, Nat.reduceEqDiff, Nat.succ_ne_self, Nat.one_ne_zero, Nat.add_left_cancel_iff, ri_wpa, ri_wp, QLaw_law_2, QLaw_law_3, QLaw_law_4, QLaw_law_5, QLaw_law_6, hs0, hs1, h1, h2, hth, hkn, lgs, ic_add]
theorem L_cancelJob (hI : Inv n0 N0 z0 q G m N z) (hq : q ≤ 512) (hS : Sta n0 S0 G) (hs : Scr n0 s len sc G) (h7 : 7 * p + 7 ≤ len) : Lc n0 S0 N0 z0 q s p 384 l6 l7 l8 l9 G m N z := by
  have k303 : kd 303 = 25 := rfl
  have k304 : kd 304 = 26 := rfl
  have k292 : kd 292 = 18 := rfl
  have hs0 := hs G m (fun _ _ => rfl)
  obtain ⟨k, G1, m1, N1, z1, v, m2, hk, h1, hG, h2, h3, h4, h5⟩ := W_cancelJob (P_cancelJob (S0 := S0) (job := (sc (7 * p + 1))) hI hq)
  have hs1 := hs G1 m1 hG
  have hth : Mt (n0, S0) 41 128 [.ref (n0 + 292)] (hp n0 G1 m2, N1, z1) = _ := m_thrown (n0 := n0) (S0 := S0) (G := G1) (N := N1) (z := z1) (m := m2) (d := 40)
  rw [h3] at hth
  by_cases hk0 : k = 0
  · subst hk0
    have h4 := h4 rfl
    refine ⟨G1, m2, N1, z1, some (.int (ic 0)), some (.int v), l8, l9, ?_, hG, h5⟩
    simp (disch := first | assumption | (show (_ : Nat) < _; omega) | (show (_ : Nat) ≠ _; omega) | (show (_ : Nat) ≤ _; omega) | exact Or.inl rfl | exact Or.inr rfl) only [hG0, hG1, hG2, hF0, hF1, hA0, hA1, xL, xC, icL, Option.bind_some, Nat.le_add_right, Nat.le_refl, if_true, if_false, and_self, true_and, and_true, or_false, false_or, or_true, true_or, and_false, false_and, not_true_eq_false, not_false_eq_true, Nat.reduceAdd, Nat.reduceLeDiff, Nat.reduceLT, Option.toList_some, Option.toList_none, List.cons_append, List.nil_append, callK_ret, callR_ret, callK_thr, decide_true, Bool.true_and, xNr, bI0, bIT, bIF, ne_eq, Classical.not_not, not_false_eq_true, false_or, List.length_nil, icM, ic_lt, ic_eq, le_nl, ↓reduceIte, Nat.lt_irrefl, ri_ws, ri_wn, ri_as, ri_an, upd_s, upd_n, rp_wi, rp_wa, rl_wi, rl_wa, rl_wp, rl_wpa, rl_wl, rp_wl, ri_wl, rp_wd, ri_wd, in_rng, Int32.lt_irrefl, Nat.not_lt_zero, pk_nc, Nat.reduceEqDiff, Nat.succ_ne_self, Nat.one_ne_zero, Nat.add_left_cancel_iff, ri_wpa, ri_wp, QLaw_law_6, QLaw_law_7, hs0, hs1, h1, h2, hth, h4, lgs, ic_add]
  · have hkn : ¬ ic k = ic 0 := fun y => hk0 (by rw [ic_eq (by omega) (by omega)] at y; exact y)
    refine ⟨G1, m2, N1, z1, some (.int (ic k)), some (.int v), l8, l9, ?_, hG, h5⟩
    simp (disch := first | assumption | (show (_ : Nat) < _; omega) | (show (_ : Nat) ≠ _; omega) | (show (_ : Nat) ≤ _; omega) | exact Or.inl rfl | exact Or.inr rfl) only [hG0, hG1, hG2, hF0, hF1, hA0, hA1, xL, xC, icL, Option.bind_some, Nat.le_add_right, Nat.le_refl, if_true, if_false, and_self, true_and, and_true, or_false, false_or, or_true, true_or, and_false, false_and, not_true_eq_false, not_false_eq_true, Nat.reduceAdd, Nat.reduceLeDiff, Nat.reduceLT, Option.toList_some, Option.toList_none, List.cons_append, List.nil_append, callK_ret, callR_ret, callK_thr, decide_true, Bool.true_and, xNr, bI0, bIT, bIF, ne_eq, Classical.not_not, not_false_eq_true, false_or, List.length_nil, icM, ic_lt, ic_eq, le_nl, ↓reduceIte, Nat.lt_irrefl, ri_ws, ri_wn, ri_as, ri_an, upd_s, upd_n, rp_wi, rp_wa, rl_wi, rl_wa, rl_wp, rl_wpa, rl_wl, rp_wl, ri_wl, rp_wd, ri_wd, in_rng, Int32.lt_irrefl, Nat.not_lt_zero, pk_nc, Nat.reduceEqDiff, Nat.succ_ne_self, Nat.one_ne_zero, Nat.add_left_cancel_iff, ri_wpa, ri_wp, QLaw_law_6, QLaw_law_7, hs0, hs1, h1, h2, hth, hkn, lgs, ic_add]
theorem L_assign (hI : Inv n0 N0 z0 q G m N z) (hq : q ≤ 512) (hS : Sta n0 S0 G) (hs : Scr n0 s len sc G) (h7 : 7 * p + 7 ≤ len) : Lc n0 S0 N0 z0 q s p 440 l6 l7 l8 l9 G m N z := by
  have k303 : kd 303 = 25 := rfl
  have k304 : kd 304 = 26 := rfl
  have k292 : kd 292 = 18 := rfl
  have hs0 := hs G m (fun _ _ => rfl)
  obtain ⟨k, G1, m1, N1, z1, v, m2, hk, h1, hG, h2, h3, h4, h5⟩ := W_assign (P_assign (S0 := S0) (job := (sc (7 * p + 1))) (w := (sc (7 * p + 2))) hI hq)
  have hs1 := hs G1 m1 hG
  have hth : Mt (n0, S0) 41 128 [.ref (n0 + 292)] (hp n0 G1 m2, N1, z1) = _ := m_thrown (n0 := n0) (S0 := S0) (G := G1) (N := N1) (z := z1) (m := m2) (d := 40)
  rw [h3] at hth
  by_cases hk0 : k = 0
  · subst hk0
    have h4 := h4 rfl
    refine ⟨G1, m2, N1, z1, some (.int (ic 0)), some (.int v), l8, l9, ?_, hG, h5⟩
    simp (disch := first | assumption | (show (_ : Nat) < _; omega) | (show (_ : Nat) ≠ _; omega) | (show (_ : Nat) ≤ _; omega) | exact Or.inl rfl | exact Or.inr rfl) only [hG0, hG1, hG2, hF0, hF1, hA0, hA1, xL, xC, icL, Option.bind_some, Nat.le_add_right, Nat.le_refl, if_true, if_false, and_self, true_and, and_true, or_false, false_or, or_true, true_or, and_false, false_and, not_true_eq_false, not_false_eq_true, Nat.reduceAdd, Nat.reduceLeDiff, Nat.reduceLT, Option.toList_some, Option.toList_none, List.cons_append, List.nil_append, callK_ret, callR_ret, callK_thr, decide_true, Bool.true_and, xNr, bI0, bIT, bIF, ne_eq, Classical.not_not, not_false_eq_true, false_or, List.length_nil, icM, ic_lt, ic_eq, le_nl, ↓reduceIte, Nat.lt_irrefl, ri_ws, ri_wn, ri_as, ri_an, upd_s, upd_n, rp_wi, rp_wa, rl_wi, rl_wa, rl_wp, rl_wpa, rl_wl, rp_wl, ri_wl, rp_wd, ri_wd, in_rng, Int32.lt_irrefl, Nat.not_lt_zero, pk_nc, Nat.reduceEqDiff, Nat.succ_ne_self, Nat.one_ne_zero, Nat.add_left_cancel_iff, ri_wpa, ri_wp, QLaw_law_8, QLaw_law_9, hs0, hs1, h1, h2, hth, h4, lgs, ic_add]
  · have hkn : ¬ ic k = ic 0 := fun y => hk0 (by rw [ic_eq (by omega) (by omega)] at y; exact y)
    refine ⟨G1, m2, N1, z1, some (.int (ic k)), some (.int v), l8, l9, ?_, hG, h5⟩
    simp (disch := first | assumption | (show (_ : Nat) < _; omega) | (show (_ : Nat) ≠ _; omega) | (show (_ : Nat) ≤ _; omega) | exact Or.inl rfl | exact Or.inr rfl) only [hG0, hG1, hG2, hF0, hF1, hA0, hA1, xL, xC, icL, Option.bind_some, Nat.le_add_right, Nat.le_refl, if_true, if_false, and_self, true_and, and_true, or_false, false_or, or_true, true_or, and_false, false_and, not_true_eq_false, not_false_eq_true, Nat.reduceAdd, Nat.reduceLeDiff, Nat.reduceLT, Option.toList_some, Option.toList_none, List.cons_append, List.nil_append, callK_ret, callR_ret, callK_thr, decide_true, Bool.true_and, xNr, bI0, bIT, bIF, ne_eq, Classical.not_not, not_false_eq_true, false_or, List.length_nil, icM, ic_lt, ic_eq, le_nl, ↓reduceIte, Nat.lt_irrefl, ri_ws, ri_wn, ri_as, ri_an, upd_s, upd_n, rp_wi, rp_wa, rl_wi, rl_wa, rl_wp, rl_wpa, rl_wl, rp_wl, ri_wl, rp_wd, ri_wd, in_rng, Int32.lt_irrefl, Nat.not_lt_zero, pk_nc, Nat.reduceEqDiff, Nat.succ_ne_self, Nat.one_ne_zero, Nat.add_left_cancel_iff, ri_wpa, ri_wp, QLaw_law_8, QLaw_law_9, hs0, hs1, h1, h2, hth, hkn, lgs, ic_add]
theorem L_unassign (hI : Inv n0 N0 z0 q G m N z) (hq : q ≤ 512) (hS : Sta n0 S0 G) (hs : Scr n0 s len sc G) (h7 : 7 * p + 7 ≤ len) : Lc n0 S0 N0 z0 q s p 508 l6 l7 l8 l9 G m N z := by
  have k303 : kd 303 = 25 := rfl
  have k304 : kd 304 = 26 := rfl
  have k292 : kd 292 = 18 := rfl
  have hs0 := hs G m (fun _ _ => rfl)
  obtain ⟨k, G1, m1, N1, z1, v, m2, hk, h1, hG, h2, h3, h4, h5⟩ := W_unassign (P_unassign (S0 := S0) (job := (sc (7 * p + 1))) hI hq)
  have hs1 := hs G1 m1 hG
  have hth : Mt (n0, S0) 41 128 [.ref (n0 + 292)] (hp n0 G1 m2, N1, z1) = _ := m_thrown (n0 := n0) (S0 := S0) (G := G1) (N := N1) (z := z1) (m := m2) (d := 40)
  rw [h3] at hth
  by_cases hk0 : k = 0
  · subst hk0
    have h4 := h4 rfl
    refine ⟨G1, m2, N1, z1, some (.int (ic 0)), some (.int v), l8, l9, ?_, hG, h5⟩
    simp (disch := first | assumption | (show (_ : Nat) < _; omega) | (show (_ : Nat) ≠ _; omega) | (show (_ : Nat) ≤ _; omega) | exact Or.inl rfl | exact Or.inr rfl) only [hG0, hG1, hG2, hF0, hF1, hA0, hA1, xL, xC, icL, Option.bind_some, Nat.le_add_right, Nat.le_refl, if_true, if_false, and_self, true_and, and_true, or_false, false_or, or_true, true_or, and_false, false_and, not_true_eq_false, not_false_eq_true, Nat.reduceAdd, Nat.reduceLeDiff, Nat.reduceLT, Option.toList_some, Option.toList_none, List.cons_append, List.nil_append, callK_ret, callR_ret, callK_thr, decide_true, Bool.true_and, xNr, bI0, bIT, bIF, ne_eq, Classical.not_not, not_false_eq_true, false_or, List.length_nil, icM, ic_lt, ic_eq, le_nl, ↓reduceIte, Nat.lt_irrefl, ri_ws, ri_wn, ri_as, ri_an, upd_s, upd_n, rp_wi, rp_wa, rl_wi, rl_wa, rl_wp, rl_wpa, rl_wl, rp_wl, ri_wl, rp_wd, ri_wd, in_rng, Int32.lt_irrefl, Nat.not_lt_zero, pk_nc, Nat.reduceEqDiff, Nat.succ_ne_self, Nat.one_ne_zero, Nat.add_left_cancel_iff, ri_wpa, ri_wp, QLaw_law_9, QLaw_law_10, QLaw_law_11, hs0, hs1, h1, h2, hth, h4, lgs, ic_add]
  · have hkn : ¬ ic k = ic 0 := fun y => hk0 (by rw [ic_eq (by omega) (by omega)] at y; exact y)
    refine ⟨G1, m2, N1, z1, some (.int (ic k)), some (.int v), l8, l9, ?_, hG, h5⟩
    simp (disch := first | assumption | (show (_ : Nat) < _; omega) | (show (_ : Nat) ≠ _; omega) | (show (_ : Nat) ≤ _; omega) | exact Or.inl rfl | exact Or.inr rfl) only [hG0, hG1, hG2, hF0, hF1, hA0, hA1, xL, xC, icL, Option.bind_some, Nat.le_add_right, Nat.le_refl, if_true, if_false, and_self, true_and, and_true, or_false, false_or, or_true, true_or, and_false, false_and, not_true_eq_false, not_false_eq_true, Nat.reduceAdd, Nat.reduceLeDiff, Nat.reduceLT, Option.toList_some, Option.toList_none, List.cons_append, List.nil_append, callK_ret, callR_ret, callK_thr, decide_true, Bool.true_and, xNr, bI0, bIT, bIF, ne_eq, Classical.not_not, not_false_eq_true, false_or, List.length_nil, icM, ic_lt, ic_eq, le_nl, ↓reduceIte, Nat.lt_irrefl, ri_ws, ri_wn, ri_as, ri_an, upd_s, upd_n, rp_wi, rp_wa, rl_wi, rl_wa, rl_wp, rl_wpa, rl_wl, rp_wl, ri_wl, rp_wd, ri_wd, in_rng, Int32.lt_irrefl, Nat.not_lt_zero, pk_nc, Nat.reduceEqDiff, Nat.succ_ne_self, Nat.one_ne_zero, Nat.add_left_cancel_iff, ri_wpa, ri_wp, QLaw_law_9, QLaw_law_10, QLaw_law_11, hs0, hs1, h1, h2, hth, hkn, lgs, ic_add]
theorem L_addStock (hI : Inv n0 N0 z0 q G m N z) (hq : q ≤ 512) (hS : Sta n0 S0 G) (hs : Scr n0 s len sc G) (h7 : 7 * p + 7 ≤ len) : Lc n0 S0 N0 z0 q s p 564 l6 l7 l8 l9 G m N z := by
  have k303 : kd 303 = 25 := rfl
  have k304 : kd 304 = 26 := rfl
  have k292 : kd 292 = 18 := rfl
  have hs0 := hs G m (fun _ _ => rfl)
  obtain ⟨k, G1, m1, N1, z1, v, m2, hk, h1, hG, h2, h3, h4, h5⟩ := W_addStock (P_addStock (S0 := S0) (k := (((sc (7 * p + 1)).toUInt32 % 65536).toInt32)) (c := (sc (7 * p + 2))) hI hq)
  have hs1 := hs G1 m1 hG
  have hth : Mt (n0, S0) 41 128 [.ref (n0 + 292)] (hp n0 G1 m2, N1, z1) = _ := m_thrown (n0 := n0) (S0 := S0) (G := G1) (N := N1) (z := z1) (m := m2) (d := 40)
  rw [h3] at hth
  by_cases hk0 : k = 0
  · subst hk0
    have h4 := h4 rfl
    refine ⟨G1, m2, N1, z1, some (.int (ic 0)), some (.int v), l8, l9, ?_, hG, h5⟩
    simp (disch := first | assumption | (show (_ : Nat) < _; omega) | (show (_ : Nat) ≠ _; omega) | (show (_ : Nat) ≤ _; omega) | exact Or.inl rfl | exact Or.inr rfl) only [hG0, hG1, hG2, hF0, hF1, hA0, hA1, xL, xC, icL, Option.bind_some, Nat.le_add_right, Nat.le_refl, if_true, if_false, and_self, true_and, and_true, or_false, false_or, or_true, true_or, and_false, false_and, not_true_eq_false, not_false_eq_true, Nat.reduceAdd, Nat.reduceLeDiff, Nat.reduceLT, Option.toList_some, Option.toList_none, List.cons_append, List.nil_append, callK_ret, callR_ret, callK_thr, decide_true, Bool.true_and, xNr, bI0, bIT, bIF, ne_eq, Classical.not_not, not_false_eq_true, false_or, List.length_nil, icM, ic_lt, ic_eq, le_nl, ↓reduceIte, Nat.lt_irrefl, ri_ws, ri_wn, ri_as, ri_an, upd_s, upd_n, rp_wi, rp_wa, rl_wi, rl_wa, rl_wp, rl_wpa, rl_wl, rp_wl, ri_wl, rp_wd, ri_wd, in_rng, Int32.lt_irrefl, Nat.not_lt_zero, pk_nc, Nat.reduceEqDiff, Nat.succ_ne_self, Nat.one_ne_zero, Nat.add_left_cancel_iff, ri_wpa, ri_wp, QLaw_law_11, QLaw_law_12, QLaw_law_13, hs0, hs1, h1, h2, hth, h4, lgs, ic_add]
  · have hkn : ¬ ic k = ic 0 := fun y => hk0 (by rw [ic_eq (by omega) (by omega)] at y; exact y)
    refine ⟨G1, m2, N1, z1, some (.int (ic k)), some (.int v), l8, l9, ?_, hG, h5⟩
    simp (disch := first | assumption | (show (_ : Nat) < _; omega) | (show (_ : Nat) ≠ _; omega) | (show (_ : Nat) ≤ _; omega) | exact Or.inl rfl | exact Or.inr rfl) only [hG0, hG1, hG2, hF0, hF1, hA0, hA1, xL, xC, icL, Option.bind_some, Nat.le_add_right, Nat.le_refl, if_true, if_false, and_self, true_and, and_true, or_false, false_or, or_true, true_or, and_false, false_and, not_true_eq_false, not_false_eq_true, Nat.reduceAdd, Nat.reduceLeDiff, Nat.reduceLT, Option.toList_some, Option.toList_none, List.cons_append, List.nil_append, callK_ret, callR_ret, callK_thr, decide_true, Bool.true_and, xNr, bI0, bIT, bIF, ne_eq, Classical.not_not, not_false_eq_true, false_or, List.length_nil, icM, ic_lt, ic_eq, le_nl, ↓reduceIte, Nat.lt_irrefl, ri_ws, ri_wn, ri_as, ri_an, upd_s, upd_n, rp_wi, rp_wa, rl_wi, rl_wa, rl_wp, rl_wpa, rl_wl, rp_wl, ri_wl, rp_wd, ri_wd, in_rng, Int32.lt_irrefl, Nat.not_lt_zero, pk_nc, Nat.reduceEqDiff, Nat.succ_ne_self, Nat.one_ne_zero, Nat.add_left_cancel_iff, ri_wpa, ri_wp, QLaw_law_11, QLaw_law_12, QLaw_law_13, hs0, hs1, h1, h2, hth, hkn, lgs, ic_add]
theorem L_load (hI : Inv n0 N0 z0 q G m N z) (hq : q ≤ 512) (hS : Sta n0 S0 G) (hs : Scr n0 s len sc G) (h7 : 7 * p + 7 ≤ len) : Lc n0 S0 N0 z0 q s p 634 l6 l7 l8 l9 G m N z := by
  have k303 : kd 303 = 25 := rfl
  have k304 : kd 304 = 26 := rfl
  have k292 : kd 292 = 18 := rfl
  have hs0 := hs G m (fun _ _ => rfl)
  obtain ⟨k, G1, m1, N1, z1, v, m2, hk, h1, hG, h2, h3, h4, h5⟩ := W_load (P_load (S0 := S0) (w := (sc (7 * p + 1))) (k := (((sc (7 * p + 2)).toUInt32 % 65536).toInt32)) (c := (sc (7 * p + 3))) hI hq)
  have hs1 := hs G1 m1 hG
  have hth : Mt (n0, S0) 41 128 [.ref (n0 + 292)] (hp n0 G1 m2, N1, z1) = _ := m_thrown (n0 := n0) (S0 := S0) (G := G1) (N := N1) (z := z1) (m := m2) (d := 40)
  rw [h3] at hth
  by_cases hk0 : k = 0
  · subst hk0
    have h4 := h4 rfl
    refine ⟨G1, m2, N1, z1, some (.int (ic 0)), some (.int v), l8, l9, ?_, hG, h5⟩
    simp (disch := first | assumption | (show (_ : Nat) < _; omega) | (show (_ : Nat) ≠ _; omega) | (show (_ : Nat) ≤ _; omega) | exact Or.inl rfl | exact Or.inr rfl) only [hG0, hG1, hG2, hF0, hF1, hA0, hA1, xL, xC, icL, Option.bind_some, Nat.le_add_right, Nat.le_refl, if_true, if_false, and_self, true_and, and_true, or_false, false_or, or_true, true_or, and_false, false_and, not_true_eq_false, not_false_eq_true, Nat.reduceAdd, Nat.reduceLeDiff, Nat.reduceLT, Option.toList_some, Option.toList_none, List.cons_append, List.nil_append, callK_ret, callR_ret, callK_thr, decide_true, Bool.true_and, xNr, bI0, bIT, bIF, ne_eq, Classical.not_not, not_false_eq_true, false_or, List.length_nil, icM, ic_lt, ic_eq, le_nl, ↓reduceIte, Nat.lt_irrefl, ri_ws, ri_wn, ri_as, ri_an, upd_s, upd_n, rp_wi, rp_wa, rl_wi, rl_wa, rl_wp, rl_wpa, rl_wl, rp_wl, ri_wl, rp_wd, ri_wd, in_rng, Int32.lt_irrefl, Nat.not_lt_zero, pk_nc, Nat.reduceEqDiff, Nat.succ_ne_self, Nat.one_ne_zero, Nat.add_left_cancel_iff, ri_wpa, ri_wp, QLaw_law_13, QLaw_law_14, QLaw_law_15, hs0, hs1, h1, h2, hth, h4, lgs, ic_add]
  · have hkn : ¬ ic k = ic 0 := fun y => hk0 (by rw [ic_eq (by omega) (by omega)] at y; exact y)
    refine ⟨G1, m2, N1, z1, some (.int (ic k)), some (.int v), l8, l9, ?_, hG, h5⟩
    simp (disch := first | assumption | (show (_ : Nat) < _; omega) | (show (_ : Nat) ≠ _; omega) | (show (_ : Nat) ≤ _; omega) | exact Or.inl rfl | exact Or.inr rfl) only [hG0, hG1, hG2, hF0, hF1, hA0, hA1, xL, xC, icL, Option.bind_some, Nat.le_add_right, Nat.le_refl, if_true, if_false, and_self, true_and, and_true, or_false, false_or, or_true, true_or, and_false, false_and, not_true_eq_false, not_false_eq_true, Nat.reduceAdd, Nat.reduceLeDiff, Nat.reduceLT, Option.toList_some, Option.toList_none, List.cons_append, List.nil_append, callK_ret, callR_ret, callK_thr, decide_true, Bool.true_and, xNr, bI0, bIT, bIF, ne_eq, Classical.not_not, not_false_eq_true, false_or, List.length_nil, icM, ic_lt, ic_eq, le_nl, ↓reduceIte, Nat.lt_irrefl, ri_ws, ri_wn, ri_as, ri_an, upd_s, upd_n, rp_wi, rp_wa, rl_wi, rl_wa, rl_wp, rl_wpa, rl_wl, rp_wl, ri_wl, rp_wd, ri_wd, in_rng, Int32.lt_irrefl, Nat.not_lt_zero, pk_nc, Nat.reduceEqDiff, Nat.succ_ne_self, Nat.one_ne_zero, Nat.add_left_cancel_iff, ri_wpa, ri_wp, QLaw_law_13, QLaw_law_14, QLaw_law_15, hs0, hs1, h1, h2, hth, hkn, lgs, ic_add]
theorem L_borrow (hI : Inv n0 N0 z0 q G m N z) (hq : q ≤ 512) (hS : Sta n0 S0 G) (hs : Scr n0 s len sc G) (h7 : 7 * p + 7 ≤ len) : Lc n0 S0 N0 z0 q s p 716 l6 l7 l8 l9 G m N z := by
  have k303 : kd 303 = 25 := rfl
  have k304 : kd 304 = 26 := rfl
  have k292 : kd 292 = 18 := rfl
  have hs0 := hs G m (fun _ _ => rfl)
  obtain ⟨k, G1, m1, N1, z1, v, m2, hk, h1, hG, h2, h3, h4, h5⟩ := W_borrow (P_borrow (S0 := S0) (w := (sc (7 * p + 1))) (t := (sc (7 * p + 2))) hI hq)
  have hs1 := hs G1 m1 hG
  have hth : Mt (n0, S0) 41 128 [.ref (n0 + 292)] (hp n0 G1 m2, N1, z1) = _ := m_thrown (n0 := n0) (S0 := S0) (G := G1) (N := N1) (z := z1) (m := m2) (d := 40)
  rw [h3] at hth
  by_cases hk0 : k = 0
  · subst hk0
    have h4 := h4 rfl
    refine ⟨G1, m2, N1, z1, some (.int (ic 0)), some (.int v), l8, l9, ?_, hG, h5⟩
    simp (disch := first | assumption | (show (_ : Nat) < _; omega) | (show (_ : Nat) ≠ _; omega) | (show (_ : Nat) ≤ _; omega) | exact Or.inl rfl | exact Or.inr rfl) only [hG0, hG1, hG2, hF0, hF1, hA0, hA1, xL, xC, icL, Option.bind_some, Nat.le_add_right, Nat.le_refl, if_true, if_false, and_self, true_and, and_true, or_false, false_or, or_true, true_or, and_false, false_and, not_true_eq_false, not_false_eq_true, Nat.reduceAdd, Nat.reduceLeDiff, Nat.reduceLT, Option.toList_some, Option.toList_none, List.cons_append, List.nil_append, callK_ret, callR_ret, callK_thr, decide_true, Bool.true_and, xNr, bI0, bIT, bIF, ne_eq, Classical.not_not, not_false_eq_true, false_or, List.length_nil, icM, ic_lt, ic_eq, le_nl, ↓reduceIte, Nat.lt_irrefl, ri_ws, ri_wn, ri_as, ri_an, upd_s, upd_n, rp_wi, rp_wa, rl_wi, rl_wa, rl_wp, rl_wpa, rl_wl, rp_wl, ri_wl, rp_wd, ri_wd, in_rng, Int32.lt_irrefl, Nat.not_lt_zero, pk_nc, Nat.reduceEqDiff, Nat.succ_ne_self, Nat.one_ne_zero, Nat.add_left_cancel_iff, ri_wpa, ri_wp, QLaw_law_15, QLaw_law_16, QLaw_law_17, hs0, hs1, h1, h2, hth, h4, lgs, ic_add]
  · have hkn : ¬ ic k = ic 0 := fun y => hk0 (by rw [ic_eq (by omega) (by omega)] at y; exact y)
    refine ⟨G1, m2, N1, z1, some (.int (ic k)), some (.int v), l8, l9, ?_, hG, h5⟩
    simp (disch := first | assumption | (show (_ : Nat) < _; omega) | (show (_ : Nat) ≠ _; omega) | (show (_ : Nat) ≤ _; omega) | exact Or.inl rfl | exact Or.inr rfl) only [hG0, hG1, hG2, hF0, hF1, hA0, hA1, xL, xC, icL, Option.bind_some, Nat.le_add_right, Nat.le_refl, if_true, if_false, and_self, true_and, and_true, or_false, false_or, or_true, true_or, and_false, false_and, not_true_eq_false, not_false_eq_true, Nat.reduceAdd, Nat.reduceLeDiff, Nat.reduceLT, Option.toList_some, Option.toList_none, List.cons_append, List.nil_append, callK_ret, callR_ret, callK_thr, decide_true, Bool.true_and, xNr, bI0, bIT, bIF, ne_eq, Classical.not_not, not_false_eq_true, false_or, List.length_nil, icM, ic_lt, ic_eq, le_nl, ↓reduceIte, Nat.lt_irrefl, ri_ws, ri_wn, ri_as, ri_an, upd_s, upd_n, rp_wi, rp_wa, rl_wi, rl_wa, rl_wp, rl_wpa, rl_wl, rp_wl, ri_wl, rp_wd, ri_wd, in_rng, Int32.lt_irrefl, Nat.not_lt_zero, pk_nc, Nat.reduceEqDiff, Nat.succ_ne_self, Nat.one_ne_zero, Nat.add_left_cancel_iff, ri_wpa, ri_wp, QLaw_law_15, QLaw_law_16, QLaw_law_17, hs0, hs1, h1, h2, hth, hkn, lgs, ic_add]
theorem L_giveBack (hI : Inv n0 N0 z0 q G m N z) (hq : q ≤ 512) (hS : Sta n0 S0 G) (hs : Scr n0 s len sc G) (h7 : 7 * p + 7 ≤ len) : Lc n0 S0 N0 z0 q s p 784 l6 l7 l8 l9 G m N z := by
  have k303 : kd 303 = 25 := rfl
  have k304 : kd 304 = 26 := rfl
  have k292 : kd 292 = 18 := rfl
  have hs0 := hs G m (fun _ _ => rfl)
  obtain ⟨k, G1, m1, N1, z1, v, m2, hk, h1, hG, h2, h3, h4, h5⟩ := W_giveBack (P_giveBack (S0 := S0) (w := (sc (7 * p + 1))) (t := (sc (7 * p + 2))) hI hq)
  have hs1 := hs G1 m1 hG
  have hth : Mt (n0, S0) 41 128 [.ref (n0 + 292)] (hp n0 G1 m2, N1, z1) = _ := m_thrown (n0 := n0) (S0 := S0) (G := G1) (N := N1) (z := z1) (m := m2) (d := 40)
  rw [h3] at hth
  by_cases hk0 : k = 0
  · subst hk0
    have h4 := h4 rfl
    refine ⟨G1, m2, N1, z1, some (.int (ic 0)), some (.int v), l8, l9, ?_, hG, h5⟩
    simp (disch := first | assumption | (show (_ : Nat) < _; omega) | (show (_ : Nat) ≠ _; omega) | (show (_ : Nat) ≤ _; omega) | exact Or.inl rfl | exact Or.inr rfl) only [hG0, hG1, hG2, hF0, hF1, hA0, hA1, xL, xC, icL, Option.bind_some, Nat.le_add_right, Nat.le_refl, if_true, if_false, and_self, true_and, and_true, or_false, false_or, or_true, true_or, and_false, false_and, not_true_eq_false, not_false_eq_true, Nat.reduceAdd, Nat.reduceLeDiff, Nat.reduceLT, Option.toList_some, Option.toList_none, List.cons_append, List.nil_append, callK_ret, callR_ret, callK_thr, decide_true, Bool.true_and, xNr, bI0, bIT, bIF, ne_eq, Classical.not_not, not_false_eq_true, false_or, List.length_nil, icM, ic_lt, ic_eq, le_nl, ↓reduceIte, Nat.lt_irrefl, ri_ws, ri_wn, ri_as, ri_an, upd_s, upd_n, rp_wi, rp_wa, rl_wi, rl_wa, rl_wp, rl_wpa, rl_wl, rp_wl, ri_wl, rp_wd, ri_wd, in_rng, Int32.lt_irrefl, Nat.not_lt_zero, pk_nc, Nat.reduceEqDiff, Nat.succ_ne_self, Nat.one_ne_zero, Nat.add_left_cancel_iff, ri_wpa, ri_wp, QLaw_law_17, QLaw_law_18, QLaw_law_19, hs0, hs1, h1, h2, hth, h4, lgs, ic_add]
  · have hkn : ¬ ic k = ic 0 := fun y => hk0 (by rw [ic_eq (by omega) (by omega)] at y; exact y)
    refine ⟨G1, m2, N1, z1, some (.int (ic k)), some (.int v), l8, l9, ?_, hG, h5⟩
    simp (disch := first | assumption | (show (_ : Nat) < _; omega) | (show (_ : Nat) ≠ _; omega) | (show (_ : Nat) ≤ _; omega) | exact Or.inl rfl | exact Or.inr rfl) only [hG0, hG1, hG2, hF0, hF1, hA0, hA1, xL, xC, icL, Option.bind_some, Nat.le_add_right, Nat.le_refl, if_true, if_false, and_self, true_and, and_true, or_false, false_or, or_true, true_or, and_false, false_and, not_true_eq_false, not_false_eq_true, Nat.reduceAdd, Nat.reduceLeDiff, Nat.reduceLT, Option.toList_some, Option.toList_none, List.cons_append, List.nil_append, callK_ret, callR_ret, callK_thr, decide_true, Bool.true_and, xNr, bI0, bIT, bIF, ne_eq, Classical.not_not, not_false_eq_true, false_or, List.length_nil, icM, ic_lt, ic_eq, le_nl, ↓reduceIte, Nat.lt_irrefl, ri_ws, ri_wn, ri_as, ri_an, upd_s, upd_n, rp_wi, rp_wa, rl_wi, rl_wa, rl_wp, rl_wpa, rl_wl, rp_wl, ri_wl, rp_wd, ri_wd, in_rng, Int32.lt_irrefl, Nat.not_lt_zero, pk_nc, Nat.reduceEqDiff, Nat.succ_ne_self, Nat.one_ne_zero, Nat.add_left_cancel_iff, ri_wpa, ri_wp, QLaw_law_17, QLaw_law_18, QLaw_law_19, hs0, hs1, h1, h2, hth, hkn, lgs, ic_add]
theorem L_repair (hI : Inv n0 N0 z0 q G m N z) (hq : q ≤ 512) (hS : Sta n0 S0 G) (hs : Scr n0 s len sc G) (h7 : 7 * p + 7 ≤ len) : Lc n0 S0 N0 z0 q s p 852 l6 l7 l8 l9 G m N z := by
  have k303 : kd 303 = 25 := rfl
  have k304 : kd 304 = 26 := rfl
  have k292 : kd 292 = 18 := rfl
  have hs0 := hs G m (fun _ _ => rfl)
  obtain ⟨k, G1, m1, N1, z1, v, m2, hk, h1, hG, h2, h3, h4, h5⟩ := W_repair (P_repair (S0 := S0) (w := (sc (7 * p + 1))) (job := (sc (7 * p + 2))) hI hq)
  have hs1 := hs G1 m1 hG
  have hth : Mt (n0, S0) 41 128 [.ref (n0 + 292)] (hp n0 G1 m2, N1, z1) = _ := m_thrown (n0 := n0) (S0 := S0) (G := G1) (N := N1) (z := z1) (m := m2) (d := 40)
  rw [h3] at hth
  by_cases hk0 : k = 0
  · subst hk0
    have h4 := h4 rfl
    refine ⟨G1, m2, N1, z1, some (.int (ic 0)), some (.int v), l8, l9, ?_, hG, h5⟩
    simp (disch := first | assumption | (show (_ : Nat) < _; omega) | (show (_ : Nat) ≠ _; omega) | (show (_ : Nat) ≤ _; omega) | exact Or.inl rfl | exact Or.inr rfl) only [hG0, hG1, hG2, hF0, hF1, hA0, hA1, xL, xC, icL, Option.bind_some, Nat.le_add_right, Nat.le_refl, if_true, if_false, and_self, true_and, and_true, or_false, false_or, or_true, true_or, and_false, false_and, not_true_eq_false, not_false_eq_true, Nat.reduceAdd, Nat.reduceLeDiff, Nat.reduceLT, Option.toList_some, Option.toList_none, List.cons_append, List.nil_append, callK_ret, callR_ret, callK_thr, decide_true, Bool.true_and, xNr, bI0, bIT, bIF, ne_eq, Classical.not_not, not_false_eq_true, false_or, List.length_nil, icM, ic_lt, ic_eq, le_nl, ↓reduceIte, Nat.lt_irrefl, ri_ws, ri_wn, ri_as, ri_an, upd_s, upd_n, rp_wi, rp_wa, rl_wi, rl_wa, rl_wp, rl_wpa, rl_wl, rp_wl, ri_wl, rp_wd, ri_wd, in_rng, Int32.lt_irrefl, Nat.not_lt_zero, pk_nc, Nat.reduceEqDiff, Nat.succ_ne_self, Nat.one_ne_zero, Nat.add_left_cancel_iff, ri_wpa, ri_wp, QLaw_law_19, QLaw_law_20, QLaw_law_21, hs0, hs1, h1, h2, hth, h4, lgs, ic_add]
  · have hkn : ¬ ic k = ic 0 := fun y => hk0 (by rw [ic_eq (by omega) (by omega)] at y; exact y)
    refine ⟨G1, m2, N1, z1, some (.int (ic k)), some (.int v), l8, l9, ?_, hG, h5⟩
    simp (disch := first | assumption | (show (_ : Nat) < _; omega) | (show (_ : Nat) ≠ _; omega) | (show (_ : Nat) ≤ _; omega) | exact Or.inl rfl | exact Or.inr rfl) only [hG0, hG1, hG2, hF0, hF1, hA0, hA1, xL, xC, icL, Option.bind_some, Nat.le_add_right, Nat.le_refl, if_true, if_false, and_self, true_and, and_true, or_false, false_or, or_true, true_or, and_false, false_and, not_true_eq_false, not_false_eq_true, Nat.reduceAdd, Nat.reduceLeDiff, Nat.reduceLT, Option.toList_some, Option.toList_none, List.cons_append, List.nil_append, callK_ret, callR_ret, callK_thr, decide_true, Bool.true_and, xNr, bI0, bIT, bIF, ne_eq, Classical.not_not, not_false_eq_true, false_or, List.length_nil, icM, ic_lt, ic_eq, le_nl, ↓reduceIte, Nat.lt_irrefl, ri_ws, ri_wn, ri_as, ri_an, upd_s, upd_n, rp_wi, rp_wa, rl_wi, rl_wa, rl_wp, rl_wpa, rl_wl, rp_wl, ri_wl, rp_wd, ri_wd, in_rng, Int32.lt_irrefl, Nat.not_lt_zero, pk_nc, Nat.reduceEqDiff, Nat.succ_ne_self, Nat.one_ne_zero, Nat.add_left_cancel_iff, ri_wpa, ri_wp, QLaw_law_19, QLaw_law_20, QLaw_law_21, hs0, hs1, h1, h2, hth, hkn, lgs, ic_add]
theorem L_goHome (hI : Inv n0 N0 z0 q G m N z) (hq : q ≤ 512) (hS : Sta n0 S0 G) (hs : Scr n0 s len sc G) (h7 : 7 * p + 7 ≤ len) : Lc n0 S0 N0 z0 q s p 920 l6 l7 l8 l9 G m N z := by
  have k303 : kd 303 = 25 := rfl
  have k304 : kd 304 = 26 := rfl
  have k292 : kd 292 = 18 := rfl
  have hs0 := hs G m (fun _ _ => rfl)
  obtain ⟨k, G1, m1, N1, z1, v, m2, hk, h1, hG, h2, h3, h4, h5⟩ := W_goHome (P_goHome (S0 := S0) (w := (sc (7 * p + 1))) hI hq)
  have hs1 := hs G1 m1 hG
  have hth : Mt (n0, S0) 41 128 [.ref (n0 + 292)] (hp n0 G1 m2, N1, z1) = _ := m_thrown (n0 := n0) (S0 := S0) (G := G1) (N := N1) (z := z1) (m := m2) (d := 40)
  rw [h3] at hth
  by_cases hk0 : k = 0
  · subst hk0
    have h4 := h4 rfl
    refine ⟨G1, m2, N1, z1, some (.int (ic 0)), some (.int v), l8, l9, ?_, hG, h5⟩
    simp (disch := first | assumption | (show (_ : Nat) < _; omega) | (show (_ : Nat) ≠ _; omega) | (show (_ : Nat) ≤ _; omega) | exact Or.inl rfl | exact Or.inr rfl) only [hG0, hG1, hG2, hF0, hF1, hA0, hA1, xL, xC, icL, Option.bind_some, Nat.le_add_right, Nat.le_refl, if_true, if_false, and_self, true_and, and_true, or_false, false_or, or_true, true_or, and_false, false_and, not_true_eq_false, not_false_eq_true, Nat.reduceAdd, Nat.reduceLeDiff, Nat.reduceLT, Option.toList_some, Option.toList_none, List.cons_append, List.nil_append, callK_ret, callR_ret, callK_thr, decide_true, Bool.true_and, xNr, bI0, bIT, bIF, ne_eq, Classical.not_not, not_false_eq_true, false_or, List.length_nil, icM, ic_lt, ic_eq, le_nl, ↓reduceIte, Nat.lt_irrefl, ri_ws, ri_wn, ri_as, ri_an, upd_s, upd_n, rp_wi, rp_wa, rl_wi, rl_wa, rl_wp, rl_wpa, rl_wl, rp_wl, ri_wl, rp_wd, ri_wd, in_rng, Int32.lt_irrefl, Nat.not_lt_zero, pk_nc, Nat.reduceEqDiff, Nat.succ_ne_self, Nat.one_ne_zero, Nat.add_left_cancel_iff, ri_wpa, ri_wp, QLaw_law_21, QLaw_law_22, QLaw_law_23, hs0, hs1, h1, h2, hth, h4, lgs, ic_add]
  · have hkn : ¬ ic k = ic 0 := fun y => hk0 (by rw [ic_eq (by omega) (by omega)] at y; exact y)
    refine ⟨G1, m2, N1, z1, some (.int (ic k)), some (.int v), l8, l9, ?_, hG, h5⟩
    simp (disch := first | assumption | (show (_ : Nat) < _; omega) | (show (_ : Nat) ≠ _; omega) | (show (_ : Nat) ≤ _; omega) | exact Or.inl rfl | exact Or.inr rfl) only [hG0, hG1, hG2, hF0, hF1, hA0, hA1, xL, xC, icL, Option.bind_some, Nat.le_add_right, Nat.le_refl, if_true, if_false, and_self, true_and, and_true, or_false, false_or, or_true, true_or, and_false, false_and, not_true_eq_false, not_false_eq_true, Nat.reduceAdd, Nat.reduceLeDiff, Nat.reduceLT, Option.toList_some, Option.toList_none, List.cons_append, List.nil_append, callK_ret, callR_ret, callK_thr, decide_true, Bool.true_and, xNr, bI0, bIT, bIF, ne_eq, Classical.not_not, not_false_eq_true, false_or, List.length_nil, icM, ic_lt, ic_eq, le_nl, ↓reduceIte, Nat.lt_irrefl, ri_ws, ri_wn, ri_as, ri_an, upd_s, upd_n, rp_wi, rp_wa, rl_wi, rl_wa, rl_wp, rl_wpa, rl_wl, rp_wl, ri_wl, rp_wd, ri_wd, in_rng, Int32.lt_irrefl, Nat.not_lt_zero, pk_nc, Nat.reduceEqDiff, Nat.succ_ne_self, Nat.one_ne_zero, Nat.add_left_cancel_iff, ri_wpa, ri_wp, QLaw_law_21, QLaw_law_22, QLaw_law_23, hs0, hs1, h1, h2, hth, hkn, lgs, ic_add]
theorem L_rest (hI : Inv n0 N0 z0 q G m N z) (hq : q ≤ 512) (hS : Sta n0 S0 G) (hs : Scr n0 s len sc G) (h7 : 7 * p + 7 ≤ len) : Lc n0 S0 N0 z0 q s p 976 l6 l7 l8 l9 G m N z := by
  have k303 : kd 303 = 25 := rfl
  have k304 : kd 304 = 26 := rfl
  have k292 : kd 292 = 18 := rfl
  have hs0 := hs G m (fun _ _ => rfl)
  obtain ⟨k, G1, m1, N1, z1, v, m2, hk, h1, hG, h2, h3, h4, h5⟩ := W_rest (P_rest (S0 := S0) (w := (sc (7 * p + 1))) (u := (sc (7 * p + 2))) hI hq)
  have hs1 := hs G1 m1 hG
  have hth : Mt (n0, S0) 41 128 [.ref (n0 + 292)] (hp n0 G1 m2, N1, z1) = _ := m_thrown (n0 := n0) (S0 := S0) (G := G1) (N := N1) (z := z1) (m := m2) (d := 40)
  rw [h3] at hth
  by_cases hk0 : k = 0
  · subst hk0
    have h4 := h4 rfl
    refine ⟨G1, m2, N1, z1, some (.int (ic 0)), some (.int v), l8, l9, ?_, hG, h5⟩
    simp (disch := first | assumption | (show (_ : Nat) < _; omega) | (show (_ : Nat) ≠ _; omega) | (show (_ : Nat) ≤ _; omega) | exact Or.inl rfl | exact Or.inr rfl) only [hG0, hG1, hG2, hF0, hF1, hA0, hA1, xL, xC, icL, Option.bind_some, Nat.le_add_right, Nat.le_refl, if_true, if_false, and_self, true_and, and_true, or_false, false_or, or_true, true_or, and_false, false_and, not_true_eq_false, not_false_eq_true, Nat.reduceAdd, Nat.reduceLeDiff, Nat.reduceLT, Option.toList_some, Option.toList_none, List.cons_append, List.nil_append, callK_ret, callR_ret, callK_thr, decide_true, Bool.true_and, xNr, bI0, bIT, bIF, ne_eq, Classical.not_not, not_false_eq_true, false_or, List.length_nil, icM, ic_lt, ic_eq, le_nl, ↓reduceIte, Nat.lt_irrefl, ri_ws, ri_wn, ri_as, ri_an, upd_s, upd_n, rp_wi, rp_wa, rl_wi, rl_wa, rl_wp, rl_wpa, rl_wl, rp_wl, ri_wl, rp_wd, ri_wd, in_rng, Int32.lt_irrefl, Nat.not_lt_zero, pk_nc, Nat.reduceEqDiff, Nat.succ_ne_self, Nat.one_ne_zero, Nat.add_left_cancel_iff, ri_wpa, ri_wp, QLaw_law_23, QLaw_law_24, QLaw_law_25, hs0, hs1, h1, h2, hth, h4, lgs, ic_add]
  · have hkn : ¬ ic k = ic 0 := fun y => hk0 (by rw [ic_eq (by omega) (by omega)] at y; exact y)
    refine ⟨G1, m2, N1, z1, some (.int (ic k)), some (.int v), l8, l9, ?_, hG, h5⟩
    simp (disch := first | assumption | (show (_ : Nat) < _; omega) | (show (_ : Nat) ≠ _; omega) | (show (_ : Nat) ≤ _; omega) | exact Or.inl rfl | exact Or.inr rfl) only [hG0, hG1, hG2, hF0, hF1, hA0, hA1, xL, xC, icL, Option.bind_some, Nat.le_add_right, Nat.le_refl, if_true, if_false, and_self, true_and, and_true, or_false, false_or, or_true, true_or, and_false, false_and, not_true_eq_false, not_false_eq_true, Nat.reduceAdd, Nat.reduceLeDiff, Nat.reduceLT, Option.toList_some, Option.toList_none, List.cons_append, List.nil_append, callK_ret, callR_ret, callK_thr, decide_true, Bool.true_and, xNr, bI0, bIT, bIF, ne_eq, Classical.not_not, not_false_eq_true, false_or, List.length_nil, icM, ic_lt, ic_eq, le_nl, ↓reduceIte, Nat.lt_irrefl, ri_ws, ri_wn, ri_as, ri_an, upd_s, upd_n, rp_wi, rp_wa, rl_wi, rl_wa, rl_wp, rl_wpa, rl_wl, rp_wl, ri_wl, rp_wd, ri_wd, in_rng, Int32.lt_irrefl, Nat.not_lt_zero, pk_nc, Nat.reduceEqDiff, Nat.succ_ne_self, Nat.one_ne_zero, Nat.add_left_cancel_iff, ri_wpa, ri_wp, QLaw_law_23, QLaw_law_24, QLaw_law_25, hs0, hs1, h1, h2, hth, hkn, lgs, ic_add]
end L2a
