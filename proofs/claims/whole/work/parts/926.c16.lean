/-! the class: execute, firstFailure, run; by wip/whole/gen_c16.py, expanded by px.py -/
section C16
variable {n0 N z d : Nat} {S0 : Nat → Value} {G : sH} {m m2 : mm}
/-- the verbs' numbers and the table of the switch -/
def isSw (n0 : Nat) (G : sH) (S0 : Nat → Value) (vv : Nat → Nat) (w : Nat) : Prop := S0 4 = .ref w ∧ w < n0 ∧ ∀ k, k < 11 → vv k < n0 ∧ isOb G (vv k) 11 = true ∧ gf G (vv k) 11 0 = some (.int (ic k)) ∧ aldI .int G w (ic k) = some (.int (ic (if k < 10 then k + 1 else 0)))
theorem c_ordinal {w k : Nat} {vv : Nat → Nat} (hw : isSw n0 G S0 vv w) (hk : k < 11) : Mt (n0, S0) (d + 1) 320 [.ref (vv k)] (hp n0 G m, N, z) = oI n0 G m N z (ic k) := by
  obtain ⟨g1, g2, g3, g4⟩ := hw.2.2 k hk
  rw [NEnum_ordinal]
  simp (disch := first | assumption | (show (_ : Nat) < _; omega) | (show (_ : Nat) ≠ _; omega) | (show (_ : Nat) ≤ _; omega) | exact Or.inl rfl | exact Or.inr rfl) only [hG0, hG1, hG2, hF0, hF1, hA0, hA1, xL, xC, icL, Option.bind_some, Nat.le_add_right, Nat.le_refl, if_true, if_false, and_self, true_and, and_true, or_false, false_or, or_true, true_or, and_false, false_and, not_true_eq_false, not_false_eq_true, Nat.reduceAdd, Nat.reduceLeDiff, Nat.reduceLT, Option.toList_some, Option.toList_none, List.cons_append, List.nil_append, callK_ret, callR_ret, callK_thr, decide_true, Bool.true_and, xNr, bI0, bIT, bIF, ne_eq, Classical.not_not, not_false_eq_true, false_or, List.length_nil, icM, ic_lt, ic_eq, le_nl, ↓reduceIte, Nat.lt_irrefl, ri_ws, ri_wn, ri_as, ri_an, upd_s, upd_n, rp_wi, rp_wa, rl_wi, rl_wa, rl_wp, rl_wpa, rl_wl, rp_wl, ri_wl, rp_wd, ri_wd, in_rng, Int32.lt_irrefl, Nat.not_lt_zero, pk_nc, Nat.reduceEqDiff, Nat.succ_ne_self, Nat.one_ne_zero, Nat.add_left_cancel_iff, ri_wpa, ri_wp, QEnum_ordinal_0, gf_lt, g3]
theorem c_exec0 {w kc : Nat} {vv : Nat → Nat} (hw : isSw n0 G S0 vv w) (hkc : kd kc = 16) (hka : kd (kc + 1) = 5) (hv : rp m kc 0 = vv 0) {r : Int32} (hop : ∀ d N z, Mt (n0, S0) (d + 2) 45 [.ref (n0 + 1), .int (ri m (kc + 1) 0), .int (ri m (kc + 1) 1), .int (ri m (kc + 1) 2), .int (ri m (kc + 1) 3), .int (ri m (kc + 1) 4), .int (ri m (kc + 1) 5)] (hp n0 G m, N, z) = oI n0 G m2 N z r) : Mt (n0, S0) (d + 5) 122 [.ref n0, .ref (n0 + kc)] (hp n0 G m, N, z) = oI n0 G m2 N z r := by
  have k1 : kd 1 = 1 := rfl
  obtain ⟨g1, g2, g3, g4⟩ := hw.2.2 0 (by decide)
  have ho := fun (d N z : Nat) => c_ordinal (n0 := n0) (S0 := S0) (G := G) (m := m) (d := d) (N := N) (z := z) hw (show 0 < 11 by decide)
  have hw1 := hw.1
  have hw2 := hw.2.1
  have hs : (if 0 < 10 then 0 + 1 else 0) = 1 := rfl
  rw [hs] at g4
  have hgo : ∀ (st : List Value) (σ : sS) (l0 l1 l2 : Option Value), Rx (n0, S0) (d + 4) 122 16 [l0, l1, l2] (.int (ic 1) :: st) σ = Rx (n0, S0) (d + 4) 122 72 [l0, l1, l2] st σ := fun _ _ _ _ _ => Rx_tsw gMT_122 d122_16 rfl (by decide) rfl (by decide) rfl
  rw [NMain_execute]
  simp (disch := first | assumption | (show (_ : Nat) < _; omega) | (show (_ : Nat) ≠ _; omega) | (show (_ : Nat) ≤ _; omega) | exact Or.inl rfl | exact Or.inr rfl) only [hG0, hG1, hG2, hF0, hF1, hA0, hA1, xL, xC, icL, Option.bind_some, Nat.le_add_right, Nat.le_refl, if_true, if_false, and_self, true_and, and_true, or_false, false_or, or_true, true_or, and_false, false_and, not_true_eq_false, not_false_eq_true, Nat.reduceAdd, Nat.reduceLeDiff, Nat.reduceLT, Option.toList_some, Option.toList_none, List.cons_append, List.nil_append, callK_ret, callR_ret, callK_thr, decide_true, Bool.true_and, xNr, bI0, bIT, bIF, ne_eq, Classical.not_not, not_false_eq_true, false_or, List.length_nil, icM, ic_lt, ic_eq, le_nl, ↓reduceIte, Nat.lt_irrefl, ri_ws, ri_wn, ri_as, ri_an, upd_s, upd_n, rp_wi, rp_wa, rl_wi, rl_wa, rl_wp, rl_wpa, rl_wl, rp_wl, ri_wl, rp_wd, ri_wd, in_rng, Int32.lt_irrefl, Nat.not_lt_zero, pk_nc, Nat.reduceEqDiff, Nat.succ_ne_self, Nat.one_ne_zero, Nat.add_left_cancel_iff, ri_wpa, ri_wp, QMain_execute_0, QMain_execute_1, QMain_execute_2, QMain_execute_3, QMain_execute_4, QMain_execute_5, hw1, hv, isOb_lt, g2, ho, aldI_lt, g4, hgo, hop]
theorem c_exec1 {w kc : Nat} {vv : Nat → Nat} (hw : isSw n0 G S0 vv w) (hkc : kd kc = 16) (hka : kd (kc + 1) = 5) (hv : rp m kc 0 = vv 1) {r : Int32} (hop : ∀ d N z, Mt (n0, S0) (d + 2) 46 [.ref (n0 + 1), .int (ri m (kc + 1) 0)] (hp n0 G m, N, z) = oI n0 G m2 N z r) : Mt (n0, S0) (d + 5) 122 [.ref n0, .ref (n0 + kc)] (hp n0 G m, N, z) = oI n0 G m2 N z r := by
  have k1 : kd 1 = 1 := rfl
  obtain ⟨g1, g2, g3, g4⟩ := hw.2.2 1 (by decide)
  have ho := fun (d N z : Nat) => c_ordinal (n0 := n0) (S0 := S0) (G := G) (m := m) (d := d) (N := N) (z := z) hw (show 1 < 11 by decide)
  have hw1 := hw.1
  have hw2 := hw.2.1
  have hs : (if 1 < 10 then 1 + 1 else 0) = 2 := rfl
  rw [hs] at g4
  have hgo : ∀ (st : List Value) (σ : sS) (l0 l1 l2 : Option Value), Rx (n0, S0) (d + 4) 122 16 [l0, l1, l2] (.int (ic 2) :: st) σ = Rx (n0, S0) (d + 4) 122 98 [l0, l1, l2] st σ := fun _ _ _ _ _ => Rx_tsw gMT_122 d122_16 rfl (by decide) rfl (by decide) rfl
  rw [NMain_execute]
  simp (disch := first | assumption | (show (_ : Nat) < _; omega) | (show (_ : Nat) ≠ _; omega) | (show (_ : Nat) ≤ _; omega) | exact Or.inl rfl | exact Or.inr rfl) only [hG0, hG1, hG2, hF0, hF1, hA0, hA1, xL, xC, icL, Option.bind_some, Nat.le_add_right, Nat.le_refl, if_true, if_false, and_self, true_and, and_true, or_false, false_or, or_true, true_or, and_false, false_and, not_true_eq_false, not_false_eq_true, Nat.reduceAdd, Nat.reduceLeDiff, Nat.reduceLT, Option.toList_some, Option.toList_none, List.cons_append, List.nil_append, callK_ret, callR_ret, callK_thr, decide_true, Bool.true_and, xNr, bI0, bIT, bIF, ne_eq, Classical.not_not, not_false_eq_true, false_or, List.length_nil, icM, ic_lt, ic_eq, le_nl, ↓reduceIte, Nat.lt_irrefl, ri_ws, ri_wn, ri_as, ri_an, upd_s, upd_n, rp_wi, rp_wa, rl_wi, rl_wa, rl_wp, rl_wpa, rl_wl, rp_wl, ri_wl, rp_wd, ri_wd, in_rng, Int32.lt_irrefl, Nat.not_lt_zero, pk_nc, Nat.reduceEqDiff, Nat.succ_ne_self, Nat.one_ne_zero, Nat.add_left_cancel_iff, ri_wpa, ri_wp, QMain_execute_0, QMain_execute_1, QMain_execute_2, QMain_execute_3, QMain_execute_4, QMain_execute_5, hw1, hv, isOb_lt, g2, ho, aldI_lt, g4, hgo, hop]
theorem c_exec2 {w kc : Nat} {vv : Nat → Nat} (hw : isSw n0 G S0 vv w) (hkc : kd kc = 16) (hka : kd (kc + 1) = 5) (hv : rp m kc 0 = vv 2) {r : Int32} (hop : ∀ d N z, Mt (n0, S0) (d + 2) 48 [.ref (n0 + 1), .int (ri m (kc + 1) 0), .int (ri m (kc + 1) 1)] (hp n0 G m, N, z) = oI n0 G m2 N z r) : Mt (n0, S0) (d + 5) 122 [.ref n0, .ref (n0 + kc)] (hp n0 G m, N, z) = oI n0 G m2 N z r := by
  have k1 : kd 1 = 1 := rfl
  obtain ⟨g1, g2, g3, g4⟩ := hw.2.2 2 (by decide)
  have ho := fun (d N z : Nat) => c_ordinal (n0 := n0) (S0 := S0) (G := G) (m := m) (d := d) (N := N) (z := z) hw (show 2 < 11 by decide)
  have hw1 := hw.1
  have hw2 := hw.2.1
  have hs : (if 2 < 10 then 2 + 1 else 0) = 3 := rfl
  rw [hs] at g4
  have hgo : ∀ (st : List Value) (σ : sS) (l0 l1 l2 : Option Value), Rx (n0, S0) (d + 4) 122 16 [l0, l1, l2] (.int (ic 3) :: st) σ = Rx (n0, S0) (d + 4) 122 109 [l0, l1, l2] st σ := fun _ _ _ _ _ => Rx_tsw gMT_122 d122_16 rfl (by decide) rfl (by decide) rfl
  rw [NMain_execute]
  simp (disch := first | assumption | (show (_ : Nat) < _; omega) | (show (_ : Nat) ≠ _; omega) | (show (_ : Nat) ≤ _; omega) | exact Or.inl rfl | exact Or.inr rfl) only [hG0, hG1, hG2, hF0, hF1, hA0, hA1, xL, xC, icL, Option.bind_some, Nat.le_add_right, Nat.le_refl, if_true, if_false, and_self, true_and, and_true, or_false, false_or, or_true, true_or, and_false, false_and, not_true_eq_false, not_false_eq_true, Nat.reduceAdd, Nat.reduceLeDiff, Nat.reduceLT, Option.toList_some, Option.toList_none, List.cons_append, List.nil_append, callK_ret, callR_ret, callK_thr, decide_true, Bool.true_and, xNr, bI0, bIT, bIF, ne_eq, Classical.not_not, not_false_eq_true, false_or, List.length_nil, icM, ic_lt, ic_eq, le_nl, ↓reduceIte, Nat.lt_irrefl, ri_ws, ri_wn, ri_as, ri_an, upd_s, upd_n, rp_wi, rp_wa, rl_wi, rl_wa, rl_wp, rl_wpa, rl_wl, rp_wl, ri_wl, rp_wd, ri_wd, in_rng, Int32.lt_irrefl, Nat.not_lt_zero, pk_nc, Nat.reduceEqDiff, Nat.succ_ne_self, Nat.one_ne_zero, Nat.add_left_cancel_iff, ri_wpa, ri_wp, QMain_execute_0, QMain_execute_1, QMain_execute_2, QMain_execute_3, QMain_execute_4, QMain_execute_5, hw1, hv, isOb_lt, g2, ho, aldI_lt, g4, hgo, hop]
theorem c_exec3 {w kc : Nat} {vv : Nat → Nat} (hw : isSw n0 G S0 vv w) (hkc : kd kc = 16) (hka : kd (kc + 1) = 5) (hv : rp m kc 0 = vv 3) {r : Int32} (hop : ∀ d N z, Mt (n0, S0) (d + 2) 49 [.ref (n0 + 1), .int (ri m (kc + 1) 0)] (hp n0 G m, N, z) = oI n0 G m2 N z r) : Mt (n0, S0) (d + 5) 122 [.ref n0, .ref (n0 + kc)] (hp n0 G m, N, z) = oI n0 G m2 N z r := by
  have k1 : kd 1 = 1 := rfl
  obtain ⟨g1, g2, g3, g4⟩ := hw.2.2 3 (by decide)
  have ho := fun (d N z : Nat) => c_ordinal (n0 := n0) (S0 := S0) (G := G) (m := m) (d := d) (N := N) (z := z) hw (show 3 < 11 by decide)
  have hw1 := hw.1
  have hw2 := hw.2.1
  have hs : (if 3 < 10 then 3 + 1 else 0) = 4 := rfl
  rw [hs] at g4
  have hgo : ∀ (st : List Value) (σ : sS) (l0 l1 l2 : Option Value), Rx (n0, S0) (d + 4) 122 16 [l0, l1, l2] (.int (ic 4) :: st) σ = Rx (n0, S0) (d + 4) 122 123 [l0, l1, l2] st σ := fun _ _ _ _ _ => Rx_tsw gMT_122 d122_16 rfl (by decide) rfl (by decide) rfl
  rw [NMain_execute]
  simp (disch := first | assumption | (show (_ : Nat) < _; omega) | (show (_ : Nat) ≠ _; omega) | (show (_ : Nat) ≤ _; omega) | exact Or.inl rfl | exact Or.inr rfl) only [hG0, hG1, hG2, hF0, hF1, hA0, hA1, xL, xC, icL, Option.bind_some, Nat.le_add_right, Nat.le_refl, if_true, if_false, and_self, true_and, and_true, or_false, false_or, or_true, true_or, and_false, false_and, not_true_eq_false, not_false_eq_true, Nat.reduceAdd, Nat.reduceLeDiff, Nat.reduceLT, Option.toList_some, Option.toList_none, List.cons_append, List.nil_append, callK_ret, callR_ret, callK_thr, decide_true, Bool.true_and, xNr, bI0, bIT, bIF, ne_eq, Classical.not_not, not_false_eq_true, false_or, List.length_nil, icM, ic_lt, ic_eq, le_nl, ↓reduceIte, Nat.lt_irrefl, ri_ws, ri_wn, ri_as, ri_an, upd_s, upd_n, rp_wi, rp_wa, rl_wi, rl_wa, rl_wp, rl_wpa, rl_wl, rp_wl, ri_wl, rp_wd, ri_wd, in_rng, Int32.lt_irrefl, Nat.not_lt_zero, pk_nc, Nat.reduceEqDiff, Nat.succ_ne_self, Nat.one_ne_zero, Nat.add_left_cancel_iff, ri_wpa, ri_wp, QMain_execute_0, QMain_execute_1, QMain_execute_2, QMain_execute_3, QMain_execute_4, QMain_execute_5, hw1, hv, isOb_lt, g2, ho, aldI_lt, g4, hgo, hop]
theorem c_exec4 {w kc : Nat} {vv : Nat → Nat} (hw : isSw n0 G S0 vv w) (hkc : kd kc = 16) (hka : kd (kc + 1) = 5) (hv : rp m kc 0 = vv 4) {r : Int32} (hop : ∀ d N z, Mt (n0, S0) (d + 2) 50 [.ref (n0 + 1), .int (ri m (kc + 1) 0), .int (ri m (kc + 1) 1)] (hp n0 G m, N, z) = oI n0 G m2 N z r) : Mt (n0, S0) (d + 5) 122 [.ref n0, .ref (n0 + kc)] (hp n0 G m, N, z) = oI n0 G m2 N z r := by
  have k1 : kd 1 = 1 := rfl
  obtain ⟨g1, g2, g3, g4⟩ := hw.2.2 4 (by decide)
  have ho := fun (d N z : Nat) => c_ordinal (n0 := n0) (S0 := S0) (G := G) (m := m) (d := d) (N := N) (z := z) hw (show 4 < 11 by decide)
  have hw1 := hw.1
  have hw2 := hw.2.1
  have hs : (if 4 < 10 then 4 + 1 else 0) = 5 := rfl
  rw [hs] at g4
  have hgo : ∀ (st : List Value) (σ : sS) (l0 l1 l2 : Option Value), Rx (n0, S0) (d + 4) 122 16 [l0, l1, l2] (.int (ic 5) :: st) σ = Rx (n0, S0) (d + 4) 122 134 [l0, l1, l2] st σ := fun _ _ _ _ _ => Rx_tsw gMT_122 d122_16 rfl (by decide) rfl (by decide) rfl
  rw [NMain_execute]
  simp (disch := first | assumption | (show (_ : Nat) < _; omega) | (show (_ : Nat) ≠ _; omega) | (show (_ : Nat) ≤ _; omega) | exact Or.inl rfl | exact Or.inr rfl) only [hG0, hG1, hG2, hF0, hF1, hA0, hA1, xL, xC, icL, Option.bind_some, Nat.le_add_right, Nat.le_refl, if_true, if_false, and_self, true_and, and_true, or_false, false_or, or_true, true_or, and_false, false_and, not_true_eq_false, not_false_eq_true, Nat.reduceAdd, Nat.reduceLeDiff, Nat.reduceLT, Option.toList_some, Option.toList_none, List.cons_append, List.nil_append, callK_ret, callR_ret, callK_thr, decide_true, Bool.true_and, xNr, bI0, bIT, bIF, ne_eq, Classical.not_not, not_false_eq_true, false_or, List.length_nil, icM, ic_lt, ic_eq, le_nl, ↓reduceIte, Nat.lt_irrefl, ri_ws, ri_wn, ri_as, ri_an, upd_s, upd_n, rp_wi, rp_wa, rl_wi, rl_wa, rl_wp, rl_wpa, rl_wl, rp_wl, ri_wl, rp_wd, ri_wd, in_rng, Int32.lt_irrefl, Nat.not_lt_zero, pk_nc, Nat.reduceEqDiff, Nat.succ_ne_self, Nat.one_ne_zero, Nat.add_left_cancel_iff, ri_wpa, ri_wp, QMain_execute_0, QMain_execute_1, QMain_execute_2, QMain_execute_3, QMain_execute_4, QMain_execute_5, hw1, hv, isOb_lt, g2, ho, aldI_lt, g4, hgo, hop]
theorem c_exec5 {w kc : Nat} {vv : Nat → Nat} (hw : isSw n0 G S0 vv w) (hkc : kd kc = 16) (hka : kd (kc + 1) = 5) (hv : rp m kc 0 = vv 5) {r : Int32} (hop : ∀ d N z, Mt (n0, S0) (d + 2) 51 [.ref (n0 + 1), .int (ri m (kc + 1) 0), .int (ri m (kc + 1) 1), .int (ri m (kc + 1) 2)] (hp n0 G m, N, z) = oI n0 G m2 N z r) : Mt (n0, S0) (d + 5) 122 [.ref n0, .ref (n0 + kc)] (hp n0 G m, N, z) = oI n0 G m2 N z r := by
  have k1 : kd 1 = 1 := rfl
  obtain ⟨g1, g2, g3, g4⟩ := hw.2.2 5 (by decide)
  have ho := fun (d N z : Nat) => c_ordinal (n0 := n0) (S0 := S0) (G := G) (m := m) (d := d) (N := N) (z := z) hw (show 5 < 11 by decide)
  have hw1 := hw.1
  have hw2 := hw.2.1
  have hs : (if 5 < 10 then 5 + 1 else 0) = 6 := rfl
  rw [hs] at g4
  have hgo : ∀ (st : List Value) (σ : sS) (l0 l1 l2 : Option Value), Rx (n0, S0) (d + 4) 122 16 [l0, l1, l2] (.int (ic 6) :: st) σ = Rx (n0, S0) (d + 4) 122 148 [l0, l1, l2] st σ := fun _ _ _ _ _ => Rx_tsw gMT_122 d122_16 rfl (by decide) rfl (by decide) rfl
  rw [NMain_execute]
  simp (disch := first | assumption | (show (_ : Nat) < _; omega) | (show (_ : Nat) ≠ _; omega) | (show (_ : Nat) ≤ _; omega) | exact Or.inl rfl | exact Or.inr rfl) only [hG0, hG1, hG2, hF0, hF1, hA0, hA1, xL, xC, icL, Option.bind_some, Nat.le_add_right, Nat.le_refl, if_true, if_false, and_self, true_and, and_true, or_false, false_or, or_true, true_or, and_false, false_and, not_true_eq_false, not_false_eq_true, Nat.reduceAdd, Nat.reduceLeDiff, Nat.reduceLT, Option.toList_some, Option.toList_none, List.cons_append, List.nil_append, callK_ret, callR_ret, callK_thr, decide_true, Bool.true_and, xNr, bI0, bIT, bIF, ne_eq, Classical.not_not, not_false_eq_true, false_or, List.length_nil, icM, ic_lt, ic_eq, le_nl, ↓reduceIte, Nat.lt_irrefl, ri_ws, ri_wn, ri_as, ri_an, upd_s, upd_n, rp_wi, rp_wa, rl_wi, rl_wa, rl_wp, rl_wpa, rl_wl, rp_wl, ri_wl, rp_wd, ri_wd, in_rng, Int32.lt_irrefl, Nat.not_lt_zero, pk_nc, Nat.reduceEqDiff, Nat.succ_ne_self, Nat.one_ne_zero, Nat.add_left_cancel_iff, ri_wpa, ri_wp, QMain_execute_0, QMain_execute_1, QMain_execute_2, QMain_execute_3, QMain_execute_4, QMain_execute_5, hw1, hv, isOb_lt, g2, ho, aldI_lt, g4, hgo, hop]
theorem c_exec6 {w kc : Nat} {vv : Nat → Nat} (hw : isSw n0 G S0 vv w) (hkc : kd kc = 16) (hka : kd (kc + 1) = 5) (hv : rp m kc 0 = vv 6) {r : Int32} (hop : ∀ d N z, Mt (n0, S0) (d + 2) 52 [.ref (n0 + 1), .int (ri m (kc + 1) 0), .int (ri m (kc + 1) 1)] (hp n0 G m, N, z) = oI n0 G m2 N z r) : Mt (n0, S0) (d + 5) 122 [.ref n0, .ref (n0 + kc)] (hp n0 G m, N, z) = oI n0 G m2 N z r := by
  have k1 : kd 1 = 1 := rfl
  obtain ⟨g1, g2, g3, g4⟩ := hw.2.2 6 (by decide)
  have ho := fun (d N z : Nat) => c_ordinal (n0 := n0) (S0 := S0) (G := G) (m := m) (d := d) (N := N) (z := z) hw (show 6 < 11 by decide)
  have hw1 := hw.1
  have hw2 := hw.2.1
  have hs : (if 6 < 10 then 6 + 1 else 0) = 7 := rfl
  rw [hs] at g4
  have hgo : ∀ (st : List Value) (σ : sS) (l0 l1 l2 : Option Value), Rx (n0, S0) (d + 4) 122 16 [l0, l1, l2] (.int (ic 7) :: st) σ = Rx (n0, S0) (d + 4) 122 165 [l0, l1, l2] st σ := fun _ _ _ _ _ => Rx_tsw gMT_122 d122_16 rfl (by decide) rfl (by decide) rfl
  rw [NMain_execute]
  simp (disch := first | assumption | (show (_ : Nat) < _; omega) | (show (_ : Nat) ≠ _; omega) | (show (_ : Nat) ≤ _; omega) | exact Or.inl rfl | exact Or.inr rfl) only [hG0, hG1, hG2, hF0, hF1, hA0, hA1, xL, xC, icL, Option.bind_some, Nat.le_add_right, Nat.le_refl, if_true, if_false, and_self, true_and, and_true, or_false, false_or, or_true, true_or, and_false, false_and, not_true_eq_false, not_false_eq_true, Nat.reduceAdd, Nat.reduceLeDiff, Nat.reduceLT, Option.toList_some, Option.toList_none, List.cons_append, List.nil_append, callK_ret, callR_ret, callK_thr, decide_true, Bool.true_and, xNr, bI0, bIT, bIF, ne_eq, Classical.not_not, not_false_eq_true, false_or, List.length_nil, icM, ic_lt, ic_eq, le_nl, ↓reduceIte, Nat.lt_irrefl, ri_ws, ri_wn, ri_as, ri_an, upd_s, upd_n, rp_wi, rp_wa, rl_wi, rl_wa, rl_wp, rl_wpa, rl_wl, rp_wl, ri_wl, rp_wd, ri_wd, in_rng, Int32.lt_irrefl, Nat.not_lt_zero, pk_nc, Nat.reduceEqDiff, Nat.succ_ne_self, Nat.one_ne_zero, Nat.add_left_cancel_iff, ri_wpa, ri_wp, QMain_execute_0, QMain_execute_1, QMain_execute_2, QMain_execute_3, QMain_execute_4, QMain_execute_5, hw1, hv, isOb_lt, g2, ho, aldI_lt, g4, hgo, hop]
theorem c_exec7 {w kc : Nat} {vv : Nat → Nat} (hw : isSw n0 G S0 vv w) (hkc : kd kc = 16) (hka : kd (kc + 1) = 5) (hv : rp m kc 0 = vv 7) {r : Int32} (hop : ∀ d N z, Mt (n0, S0) (d + 2) 54 [.ref (n0 + 1), .int (ri m (kc + 1) 0), .int (ri m (kc + 1) 1)] (hp n0 G m, N, z) = oI n0 G m2 N z r) : Mt (n0, S0) (d + 5) 122 [.ref n0, .ref (n0 + kc)] (hp n0 G m, N, z) = oI n0 G m2 N z r := by
  have k1 : kd 1 = 1 := rfl
  obtain ⟨g1, g2, g3, g4⟩ := hw.2.2 7 (by decide)
  have ho := fun (d N z : Nat) => c_ordinal (n0 := n0) (S0 := S0) (G := G) (m := m) (d := d) (N := N) (z := z) hw (show 7 < 11 by decide)
  have hw1 := hw.1
  have hw2 := hw.2.1
  have hs : (if 7 < 10 then 7 + 1 else 0) = 8 := rfl
  rw [hs] at g4
  have hgo : ∀ (st : List Value) (σ : sS) (l0 l1 l2 : Option Value), Rx (n0, S0) (d + 4) 122 16 [l0, l1, l2] (.int (ic 8) :: st) σ = Rx (n0, S0) (d + 4) 122 179 [l0, l1, l2] st σ := fun _ _ _ _ _ => Rx_tsw gMT_122 d122_16 rfl (by decide) rfl (by decide) rfl
  rw [NMain_execute]
  simp (disch := first | assumption | (show (_ : Nat) < _; omega) | (show (_ : Nat) ≠ _; omega) | (show (_ : Nat) ≤ _; omega) | exact Or.inl rfl | exact Or.inr rfl) only [hG0, hG1, hG2, hF0, hF1, hA0, hA1, xL, xC, icL, Option.bind_some, Nat.le_add_right, Nat.le_refl, if_true, if_false, and_self, true_and, and_true, or_false, false_or, or_true, true_or, and_false, false_and, not_true_eq_false, not_false_eq_true, Nat.reduceAdd, Nat.reduceLeDiff, Nat.reduceLT, Option.toList_some, Option.toList_none, List.cons_append, List.nil_append, callK_ret, callR_ret, callK_thr, decide_true, Bool.true_and, xNr, bI0, bIT, bIF, ne_eq, Classical.not_not, not_false_eq_true, false_or, List.length_nil, icM, ic_lt, ic_eq, le_nl, ↓reduceIte, Nat.lt_irrefl, ri_ws, ri_wn, ri_as, ri_an, upd_s, upd_n, rp_wi, rp_wa, rl_wi, rl_wa, rl_wp, rl_wpa, rl_wl, rp_wl, ri_wl, rp_wd, ri_wd, in_rng, Int32.lt_irrefl, Nat.not_lt_zero, pk_nc, Nat.reduceEqDiff, Nat.succ_ne_self, Nat.one_ne_zero, Nat.add_left_cancel_iff, ri_wpa, ri_wp, QMain_execute_0, QMain_execute_1, QMain_execute_2, QMain_execute_3, QMain_execute_4, QMain_execute_5, hw1, hv, isOb_lt, g2, ho, aldI_lt, g4, hgo, hop]
theorem c_exec8 {w kc : Nat} {vv : Nat → Nat} (hw : isSw n0 G S0 vv w) (hkc : kd kc = 16) (hka : kd (kc + 1) = 5) (hv : rp m kc 0 = vv 8) {r : Int32} (hop : ∀ d N z, Mt (n0, S0) (d + 4) 55 [.ref (n0 + 1), .int (ri m (kc + 1) 0), .int (ri m (kc + 1) 1)] (hp n0 G m, N, z) = oI n0 G m2 N z r) : Mt (n0, S0) (d + 5) 122 [.ref n0, .ref (n0 + kc)] (hp n0 G m, N, z) = oI n0 G m2 N z r := by
  have k1 : kd 1 = 1 := rfl
  obtain ⟨g1, g2, g3, g4⟩ := hw.2.2 8 (by decide)
  have ho := fun (d N z : Nat) => c_ordinal (n0 := n0) (S0 := S0) (G := G) (m := m) (d := d) (N := N) (z := z) hw (show 8 < 11 by decide)
  have hw1 := hw.1
  have hw2 := hw.2.1
  have hs : (if 8 < 10 then 8 + 1 else 0) = 9 := rfl
  rw [hs] at g4
  have hgo : ∀ (st : List Value) (σ : sS) (l0 l1 l2 : Option Value), Rx (n0, S0) (d + 4) 122 16 [l0, l1, l2] (.int (ic 9) :: st) σ = Rx (n0, S0) (d + 4) 122 193 [l0, l1, l2] st σ := fun _ _ _ _ _ => Rx_tsw gMT_122 d122_16 rfl (by decide) rfl (by decide) rfl
  rw [NMain_execute]
  simp (disch := first | assumption | (show (_ : Nat) < _; omega) | (show (_ : Nat) ≠ _; omega) | (show (_ : Nat) ≤ _; omega) | exact Or.inl rfl | exact Or.inr rfl) only [hG0, hG1, hG2, hF0, hF1, hA0, hA1, xL, xC, icL, Option.bind_some, Nat.le_add_right, Nat.le_refl, if_true, if_false, and_self, true_and, and_true, or_false, false_or, or_true, true_or, and_false, false_and, not_true_eq_false, not_false_eq_true, Nat.reduceAdd, Nat.reduceLeDiff, Nat.reduceLT, Option.toList_some, Option.toList_none, List.cons_append, List.nil_append, callK_ret, callR_ret, callK_thr, decide_true, Bool.true_and, xNr, bI0, bIT, bIF, ne_eq, Classical.not_not, not_false_eq_true, false_or, List.length_nil, icM, ic_lt, ic_eq, le_nl, ↓reduceIte, Nat.lt_irrefl, ri_ws, ri_wn, ri_as, ri_an, upd_s, upd_n, rp_wi, rp_wa, rl_wi, rl_wa, rl_wp, rl_wpa, rl_wl, rp_wl, ri_wl, rp_wd, ri_wd, in_rng, Int32.lt_irrefl, Nat.not_lt_zero, pk_nc, Nat.reduceEqDiff, Nat.succ_ne_self, Nat.one_ne_zero, Nat.add_left_cancel_iff, ri_wpa, ri_wp, QMain_execute_0, QMain_execute_1, QMain_execute_2, QMain_execute_3, QMain_execute_4, QMain_execute_5, hw1, hv, isOb_lt, g2, ho, aldI_lt, g4, hgo, hop]
theorem c_exec9 {w kc : Nat} {vv : Nat → Nat} (hw : isSw n0 G S0 vv w) (hkc : kd kc = 16) (hka : kd (kc + 1) = 5) (hv : rp m kc 0 = vv 9) {r : Int32} (hop : ∀ d N z, Mt (n0, S0) (d + 2) 58 [.ref (n0 + 1), .int (ri m (kc + 1) 0)] (hp n0 G m, N, z) = oI n0 G m2 N z r) : Mt (n0, S0) (d + 5) 122 [.ref n0, .ref (n0 + kc)] (hp n0 G m, N, z) = oI n0 G m2 N z r := by
  have k1 : kd 1 = 1 := rfl
  obtain ⟨g1, g2, g3, g4⟩ := hw.2.2 9 (by decide)
  have ho := fun (d N z : Nat) => c_ordinal (n0 := n0) (S0 := S0) (G := G) (m := m) (d := d) (N := N) (z := z) hw (show 9 < 11 by decide)
  have hw1 := hw.1
  have hw2 := hw.2.1
  have hs : (if 9 < 10 then 9 + 1 else 0) = 10 := rfl
  rw [hs] at g4
  have hgo : ∀ (st : List Value) (σ : sS) (l0 l1 l2 : Option Value), Rx (n0, S0) (d + 4) 122 16 [l0, l1, l2] (.int (ic 10) :: st) σ = Rx (n0, S0) (d + 4) 122 207 [l0, l1, l2] st σ := fun _ _ _ _ _ => Rx_tsw gMT_122 d122_16 rfl (by decide) rfl (by decide) rfl
  rw [NMain_execute]
  simp (disch := first | assumption | (show (_ : Nat) < _; omega) | (show (_ : Nat) ≠ _; omega) | (show (_ : Nat) ≤ _; omega) | exact Or.inl rfl | exact Or.inr rfl) only [hG0, hG1, hG2, hF0, hF1, hA0, hA1, xL, xC, icL, Option.bind_some, Nat.le_add_right, Nat.le_refl, if_true, if_false, and_self, true_and, and_true, or_false, false_or, or_true, true_or, and_false, false_and, not_true_eq_false, not_false_eq_true, Nat.reduceAdd, Nat.reduceLeDiff, Nat.reduceLT, Option.toList_some, Option.toList_none, List.cons_append, List.nil_append, callK_ret, callR_ret, callK_thr, decide_true, Bool.true_and, xNr, bI0, bIT, bIF, ne_eq, Classical.not_not, not_false_eq_true, false_or, List.length_nil, icM, ic_lt, ic_eq, le_nl, ↓reduceIte, Nat.lt_irrefl, ri_ws, ri_wn, ri_as, ri_an, upd_s, upd_n, rp_wi, rp_wa, rl_wi, rl_wa, rl_wp, rl_wpa, rl_wl, rp_wl, ri_wl, rp_wd, ri_wd, in_rng, Int32.lt_irrefl, Nat.not_lt_zero, pk_nc, Nat.reduceEqDiff, Nat.succ_ne_self, Nat.one_ne_zero, Nat.add_left_cancel_iff, ri_wpa, ri_wp, QMain_execute_0, QMain_execute_1, QMain_execute_2, QMain_execute_3, QMain_execute_4, QMain_execute_5, hw1, hv, isOb_lt, g2, ho, aldI_lt, g4, hgo, hop]
theorem c_exec10 {w kc : Nat} {vv : Nat → Nat} (hw : isSw n0 G S0 vv w) (hkc : kd kc = 16) (hka : kd (kc + 1) = 5) (hv : rp m kc 0 = vv 10) {r : Int32} (hop : ∀ d N z, Mt (n0, S0) (d + 2) 59 [.ref (n0 + 1), .int (ri m (kc + 1) 0), .int (ri m (kc + 1) 1)] (hp n0 G m, N, z) = oI n0 G m2 N z r) : Mt (n0, S0) (d + 5) 122 [.ref n0, .ref (n0 + kc)] (hp n0 G m, N, z) = oI n0 G m2 N z r := by
  have k1 : kd 1 = 1 := rfl
  obtain ⟨g1, g2, g3, g4⟩ := hw.2.2 10 (by decide)
  have ho := fun (d N z : Nat) => c_ordinal (n0 := n0) (S0 := S0) (G := G) (m := m) (d := d) (N := N) (z := z) hw (show 10 < 11 by decide)
  have hw1 := hw.1
  have hw2 := hw.2.1
  have hs : (if 10 < 10 then 10 + 1 else 0) = 0 := rfl
  rw [hs] at g4
  have hgo : ∀ (st : List Value) (σ : sS) (l0 l1 l2 : Option Value), Rx (n0, S0) (d + 4) 122 16 [l0, l1, l2] (.int (ic 0) :: st) σ = Rx (n0, S0) (d + 4) 122 218 [l0, l1, l2] st σ := fun _ _ _ _ _ => Rx_tswD gMT_122 d122_16 rfl (Or.inl (by decide)) (by decide) rfl
  rw [NMain_execute]
  simp (disch := first | assumption | (show (_ : Nat) < _; omega) | (show (_ : Nat) ≠ _; omega) | (show (_ : Nat) ≤ _; omega) | exact Or.inl rfl | exact Or.inr rfl) only [hG0, hG1, hG2, hF0, hF1, hA0, hA1, xL, xC, icL, Option.bind_some, Nat.le_add_right, Nat.le_refl, if_true, if_false, and_self, true_and, and_true, or_false, false_or, or_true, true_or, and_false, false_and, not_true_eq_false, not_false_eq_true, Nat.reduceAdd, Nat.reduceLeDiff, Nat.reduceLT, Option.toList_some, Option.toList_none, List.cons_append, List.nil_append, callK_ret, callR_ret, callK_thr, decide_true, Bool.true_and, xNr, bI0, bIT, bIF, ne_eq, Classical.not_not, not_false_eq_true, false_or, List.length_nil, icM, ic_lt, ic_eq, le_nl, ↓reduceIte, Nat.lt_irrefl, ri_ws, ri_wn, ri_as, ri_an, upd_s, upd_n, rp_wi, rp_wa, rl_wi, rl_wa, rl_wp, rl_wpa, rl_wl, rp_wl, ri_wl, rp_wd, ri_wd, in_rng, Int32.lt_irrefl, Nat.not_lt_zero, pk_nc, Nat.reduceEqDiff, Nat.succ_ne_self, Nat.one_ne_zero, Nat.add_left_cancel_iff, ri_wpa, ri_wp, QMain_execute_0, QMain_execute_1, QMain_execute_2, QMain_execute_3, QMain_execute_4, QMain_execute_5, hw1, hv, isOb_lt, g2, ho, aldI_lt, g4, hgo, hop]
theorem c_ffLoop {cnt : Nat} (hc9 : cnt ≤ 9) (M : Nat → mm) (R : Nat → Int32) (hcnt : ∀ i, i ≤ cnt → ri (M i) 269 4 = ic cnt) (hx : ∀ i, i < cnt → ∀ d N z, Mt (n0, S0) (d + 5) 122 [.ref n0, .ref (n0 + (272 + 2 * i))] (hp n0 G (M i), N, z) = oI n0 G (M (i + 1)) N z (R i)) : ∀ k i, i + k = cnt → Rx (n0, S0) (d + 5) 121 2 [some (.ref n0), some (.int (ic i))] [] (hp n0 G (M i), N, z) = match fndA (fun i => R i < ic 0) i k with
    | some f => oI n0 G (M (f + 1)) N z (ic f)
    | none => oI n0 G (M cnt) N z (-ic 1) := by
  have k269 : kd 269 = 13 := rfl
  have k271 : kd 271 = 15 := rfl
  intro k
  induction k with
  | zero =>
    intro i hi
    obtain rfl : i = cnt := by omega
    have h1 := hcnt i (Nat.le_refl _)
    rw [HMain_firstFailure_2]
    simp (disch := first | assumption | (show (_ : Nat) < _; omega) | (show (_ : Nat) ≠ _; omega) | (show (_ : Nat) ≤ _; omega) | exact Or.inl rfl | exact Or.inr rfl) only [hG0, hG1, hG2, hF0, hF1, hA0, hA1, xL, xC, icL, Option.bind_some, Nat.le_add_right, Nat.le_refl, if_true, if_false, and_self, true_and, and_true, or_false, false_or, or_true, true_or, and_false, false_and, not_true_eq_false, not_false_eq_true, Nat.reduceAdd, Nat.reduceLeDiff, Nat.reduceLT, Option.toList_some, Option.toList_none, List.cons_append, List.nil_append, callK_ret, callR_ret, callK_thr, decide_true, Bool.true_and, xNr, bI0, bIT, bIF, ne_eq, Classical.not_not, not_false_eq_true, false_or, List.length_nil, icM, ic_lt, ic_eq, le_nl, ↓reduceIte, Nat.lt_irrefl, ri_ws, ri_wn, ri_as, ri_an, upd_s, upd_n, rp_wi, rp_wa, rl_wi, rl_wa, rl_wp, rl_wpa, rl_wl, rp_wl, ri_wl, rp_wd, ri_wd, in_rng, Int32.lt_irrefl, Nat.not_lt_zero, pk_nc, Nat.reduceEqDiff, Nat.succ_ne_self, Nat.one_ne_zero, Nat.add_left_cancel_iff, ri_wpa, ri_wp, QMain_firstFailure_0, h1, fndA]
  | succ k ih =>
    intro i hi
    have hin : i < cnt := by omega
    have hi9 : i < 9 := by omega
    have h1 := hcnt i (by omega)
    have h2 := hx i hin
    have e := ih (i + 1) (by omega)
    clear hx hcnt ih
    rw [HMain_firstFailure_2]
    by_cases h : R i < ic 0
    · rw [fndA, if_pos h]
      simp (disch := first | assumption | (show (_ : Nat) < _; omega) | (show (_ : Nat) ≠ _; omega) | (show (_ : Nat) ≤ _; omega) | exact Or.inl rfl | exact Or.inr rfl) only [hG0, hG1, hG2, hF0, hF1, hA0, hA1, xL, xC, icL, Option.bind_some, Nat.le_add_right, Nat.le_refl, if_true, if_false, and_self, true_and, and_true, or_false, false_or, or_true, true_or, and_false, false_and, not_true_eq_false, not_false_eq_true, Nat.reduceAdd, Nat.reduceLeDiff, Nat.reduceLT, Option.toList_some, Option.toList_none, List.cons_append, List.nil_append, callK_ret, callR_ret, callK_thr, decide_true, Bool.true_and, xNr, bI0, bIT, bIF, ne_eq, Classical.not_not, not_false_eq_true, false_or, List.length_nil, icM, ic_lt, ic_eq, le_nl, ↓reduceIte, Nat.lt_irrefl, ri_ws, ri_wn, ri_as, ri_an, upd_s, upd_n, rp_wi, rp_wa, rl_wi, rl_wa, rl_wp, rl_wpa, rl_wl, rp_wl, ri_wl, rp_wd, ri_wd, in_rng, Int32.lt_irrefl, Nat.not_lt_zero, pk_nc, Nat.reduceEqDiff, Nat.succ_ne_self, Nat.one_ne_zero, Nat.add_left_cancel_iff, ri_wpa, ri_wp, QMain_firstFailure_0, h1, hin, h2, h]
    · rw [fndA, if_neg h]
      simp (disch := first | assumption | (show (_ : Nat) < _; omega) | (show (_ : Nat) ≠ _; omega) | (show (_ : Nat) ≤ _; omega) | exact Or.inl rfl | exact Or.inr rfl) only [hG0, hG1, hG2, hF0, hF1, hA0, hA1, xL, xC, icL, Option.bind_some, Nat.le_add_right, Nat.le_refl, if_true, if_false, and_self, true_and, and_true, or_false, false_or, or_true, true_or, and_false, false_and, not_true_eq_false, not_false_eq_true, Nat.reduceAdd, Nat.reduceLeDiff, Nat.reduceLT, Option.toList_some, Option.toList_none, List.cons_append, List.nil_append, callK_ret, callR_ret, callK_thr, decide_true, Bool.true_and, xNr, bI0, bIT, bIF, ne_eq, Classical.not_not, not_false_eq_true, false_or, List.length_nil, icM, ic_lt, ic_eq, le_nl, ↓reduceIte, Nat.lt_irrefl, ri_ws, ri_wn, ri_as, ri_an, upd_s, upd_n, rp_wi, rp_wa, rl_wi, rl_wa, rl_wp, rl_wpa, rl_wl, rp_wl, ri_wl, rp_wd, ri_wd, in_rng, Int32.lt_irrefl, Nat.not_lt_zero, pk_nc, Nat.reduceEqDiff, Nat.succ_ne_self, Nat.one_ne_zero, Nat.add_left_cancel_iff, ri_wpa, ri_wp, QMain_firstFailure_0, h1, hin, h2, h, ic_add]
      exact e
theorem c_firstFailure {cnt : Nat} (hc9 : cnt ≤ 9) (M : Nat → mm) (R : Nat → Int32) (hcnt : ∀ i, i ≤ cnt → ri (M i) 269 4 = ic cnt) (hx : ∀ i, i < cnt → ∀ d N z, Mt (n0, S0) (d + 5) 122 [.ref n0, .ref (n0 + (272 + 2 * i))] (hp n0 G (M i), N, z) = oI n0 G (M (i + 1)) N z (R i)) : Mt (n0, S0) (d + 6) 121 [.ref n0] (hp n0 G (M 0), N, z) = match fndA (fun i => R i < ic 0) 0 cnt with
    | some f => oI n0 G (M (f + 1)) N z (ic f)
    | none => oI n0 G (M cnt) N z (-ic 1) := by
  rw [NMain_firstFailure]
  simp (disch := first | assumption | (show (_ : Nat) < _; omega) | (show (_ : Nat) ≠ _; omega) | (show (_ : Nat) ≤ _; omega) | exact Or.inl rfl | exact Or.inr rfl) only [hG0, hG1, hG2, hF0, hF1, hA0, hA1, xL, xC, icL, Option.bind_some, Nat.le_add_right, Nat.le_refl, if_true, if_false, and_self, true_and, and_true, or_false, false_or, or_true, true_or, and_false, false_and, not_true_eq_false, not_false_eq_true, Nat.reduceAdd, Nat.reduceLeDiff, Nat.reduceLT, Option.toList_some, Option.toList_none, List.cons_append, List.nil_append, callK_ret, callR_ret, callK_thr, decide_true, Bool.true_and, xNr, bI0, bIT, bIF, ne_eq, Classical.not_not, not_false_eq_true, false_or, List.length_nil, icM, ic_lt, ic_eq, le_nl, ↓reduceIte, Nat.lt_irrefl, ri_ws, ri_wn, ri_as, ri_an, upd_s, upd_n, rp_wi, rp_wa, rl_wi, rl_wa, rl_wp, rl_wpa, rl_wl, rp_wl, ri_wl, rp_wd, ri_wd, in_rng, Int32.lt_irrefl, Nat.not_lt_zero, pk_nc, Nat.reduceEqDiff, Nat.succ_ne_self, Nat.one_ne_zero, Nat.add_left_cancel_iff, ri_wpa, ri_wp, QMain_firstFailure_0]
  exact c_ffLoop hc9 M R hcnt hx cnt 0 (by omega)
/-- a program that can't be read -/
theorem c_runErr {e : Nat} {m1 : mm} (hpa : ∀ d N z, Mt (n0, S0) (d + 7) 32 [.ref (n0 + 269)] (hp n0 G m, N, z) = oI n0 G m1 N z (ic e)) (he : e < 1000) : Mt (n0, S0) (d + 8) 120 [.ref n0] (hp n0 G m, N, z) = oT n0 G (wi (wi m1 269 1 (ic 0)) 0 7 (ic e)) N z "java/lang/IllegalArgumentException" := by
  have k269 : kd 269 = 13 := rfl
  have hne : ¬ ic e = -ic 1 := fun h => by
    have := congrArg Int32.toInt h
    rw [ic_toInt (by omega)] at this
    have h2 : (-ic 1 : Int32).toInt = -1 := by decide
    omega
  rw [NMain_run]
  simp (disch := first | assumption | (show (_ : Nat) < _; omega) | (show (_ : Nat) ≠ _; omega) | (show (_ : Nat) ≤ _; omega) | exact Or.inl rfl | exact Or.inr rfl) only [hG0, hG1, hG2, hF0, hF1, hA0, hA1, xL, xC, icL, Option.bind_some, Nat.le_add_right, Nat.le_refl, if_true, if_false, and_self, true_and, and_true, or_false, false_or, or_true, true_or, and_false, false_and, not_true_eq_false, not_false_eq_true, Nat.reduceAdd, Nat.reduceLeDiff, Nat.reduceLT, Option.toList_some, Option.toList_none, List.cons_append, List.nil_append, callK_ret, callR_ret, callK_thr, decide_true, Bool.true_and, xNr, bI0, bIT, bIF, ne_eq, Classical.not_not, not_false_eq_true, false_or, List.length_nil, icM, ic_lt, ic_eq, le_nl, ↓reduceIte, Nat.lt_irrefl, ri_ws, ri_wn, ri_as, ri_an, upd_s, upd_n, rp_wi, rp_wa, rl_wi, rl_wa, rl_wp, rl_wpa, rl_wl, rp_wl, ri_wl, rp_wd, ri_wd, in_rng, Int32.lt_irrefl, Nat.not_lt_zero, pk_nc, Nat.reduceEqDiff, Nat.succ_ne_self, Nat.one_ne_zero, Nat.add_left_cancel_iff, ri_wpa, ri_wp, QMain_run_0, QMain_run_1, hpa, c_empty, hne]
/-- a program that is read, and runs -/
theorem c_runOk {m1 m2 : mm} {q cnt : Nat} (hpa : ∀ d N z, Mt (n0, S0) (d + 7) 32 [.ref (n0 + 269)] (hp n0 G m, N, z) = oI n0 G m1 N z (-ic 1)) (hq : q < 9) (h : ri m1 47 1 = ic q) (hJ : JV m1 (49 + 23 * q)) (hJ1 : JV m1 1) (hff : ∀ d N z, Mt (n0, S0) (d + 6) 121 [.ref n0] (hp n0 G (cpM (wi m1 269 1 (ic 0)) (49 + 23 * q) 1), N, z) = oI n0 G m2 N z (-ic 1)) (hcn : ri m2 269 4 = ic cnt) : Mt (n0, S0) (d + 8) 120 [.ref n0] (hp n0 G m, N, z) = oI n0 G (cfM m2) N z (ic cnt) := by
  have k1 : kd 1 = 1 := rfl
  have k47 : kd 47 = 8 := rfl
  have k269 : kd 269 = 13 := rfl
  have h' : ri (wi m1 269 1 (ic 0)) 47 1 = ic q := by rw [ri_wn _ _ _ (by decide)]; exact h
  have hpr := fun (d N z : Nat) => c_prepare (n0 := n0) (S0 := S0) (G := G) (m := wi m1 269 1 (ic 0)) (d := d) (N := N) (z := z) hq h' hJ hJ1
  have hcf : ri (cfM m2) 269 4 = ic cnt := by
    unfold cfM
    rw [ri_wn _ _ _ (by decide), ri_wn _ _ _ (by decide)]
    exact hcn
  rw [NMain_run]
  simp (disch := first | assumption | (show (_ : Nat) < _; omega) | (show (_ : Nat) ≠ _; omega) | (show (_ : Nat) ≤ _; omega) | exact Or.inl rfl | exact Or.inr rfl) only [hG0, hG1, hG2, hF0, hF1, hA0, hA1, xL, xC, icL, Option.bind_some, Nat.le_add_right, Nat.le_refl, if_true, if_false, and_self, true_and, and_true, or_false, false_or, or_true, true_or, and_false, false_and, not_true_eq_false, not_false_eq_true, Nat.reduceAdd, Nat.reduceLeDiff, Nat.reduceLT, Option.toList_some, Option.toList_none, List.cons_append, List.nil_append, callK_ret, callR_ret, callK_thr, decide_true, Bool.true_and, xNr, bI0, bIT, bIF, ne_eq, Classical.not_not, not_false_eq_true, false_or, List.length_nil, icM, ic_lt, ic_eq, le_nl, ↓reduceIte, Nat.lt_irrefl, ri_ws, ri_wn, ri_as, ri_an, upd_s, upd_n, rp_wi, rp_wa, rl_wi, rl_wa, rl_wp, rl_wpa, rl_wl, rp_wl, ri_wl, rp_wd, ri_wd, in_rng, Int32.lt_irrefl, Nat.not_lt_zero, pk_nc, Nat.reduceEqDiff, Nat.succ_ne_self, Nat.one_ne_zero, Nat.add_left_cancel_iff, ri_wpa, ri_wp, QMain_run_0, QMain_run_1, hpa, c_empty, hpr, hff, c_confirm, hcf]
/-- a program that is read, and fails at command f -/
theorem c_runFail {m1 m2 : mm} {q f : Nat} (hpa : ∀ d N z, Mt (n0, S0) (d + 7) 32 [.ref (n0 + 269)] (hp n0 G m, N, z) = oI n0 G m1 N z (-ic 1)) (hq : q < 9) (h : ri m1 47 1 = ic q) (hJ : JV m1 (49 + 23 * q)) (hJ1 : JV m1 1) (hff : ∀ d N z, Mt (n0, S0) (d + 6) 121 [.ref n0] (hp n0 G (cpM (wi m1 269 1 (ic 0)) (49 + 23 * q) 1), N, z) = oI n0 G m2 N z (ic f)) (hf : f < 1000) (h2 : ri m2 47 1 = ic q) (hJ' : JV m2 (49 + 23 * q)) (hJ1' : JV m2 1) : Mt (n0, S0) (d + 8) 120 [.ref n0] (hp n0 G m, N, z) = oT n0 G (wi (cpM m2 1 (49 + 23 * q)) 0 8 (ic f)) N z "java/lang/UnsupportedOperationException" := by
  have k1 : kd 1 = 1 := rfl
  have k47 : kd 47 = 8 := rfl
  have k269 : kd 269 = 13 := rfl
  have h' : ri (wi m1 269 1 (ic 0)) 47 1 = ic q := by rw [ri_wn _ _ _ (by decide)]; exact h
  have hpr := fun (d N z : Nat) => c_prepare (n0 := n0) (S0 := S0) (G := G) (m := wi m1 269 1 (ic 0)) (d := d) (N := N) (z := z) hq h' hJ hJ1
  have hne : ¬ ic f = -ic 1 := fun h => by
    have := congrArg Int32.toInt h
    rw [ic_toInt (by omega)] at this
    have h2 : (-ic 1 : Int32).toInt = -1 := by decide
    omega
  rw [NMain_run]
  simp (disch := first | assumption | (show (_ : Nat) < _; omega) | (show (_ : Nat) ≠ _; omega) | (show (_ : Nat) ≤ _; omega) | exact Or.inl rfl | exact Or.inr rfl) only [hG0, hG1, hG2, hF0, hF1, hA0, hA1, xL, xC, icL, Option.bind_some, Nat.le_add_right, Nat.le_refl, if_true, if_false, and_self, true_and, and_true, or_false, false_or, or_true, true_or, and_false, false_and, not_true_eq_false, not_false_eq_true, Nat.reduceAdd, Nat.reduceLeDiff, Nat.reduceLT, Option.toList_some, Option.toList_none, List.cons_append, List.nil_append, callK_ret, callR_ret, callK_thr, decide_true, Bool.true_and, xNr, bI0, bIT, bIF, ne_eq, Classical.not_not, not_false_eq_true, false_or, List.length_nil, icM, ic_lt, ic_eq, le_nl, ↓reduceIte, Nat.lt_irrefl, ri_ws, ri_wn, ri_as, ri_an, upd_s, upd_n, rp_wi, rp_wa, rl_wi, rl_wa, rl_wp, rl_wpa, rl_wl, rp_wl, ri_wl, rp_wd, ri_wd, in_rng, Int32.lt_irrefl, Nat.not_lt_zero, pk_nc, Nat.reduceEqDiff, Nat.succ_ne_self, Nat.one_ne_zero, Nat.add_left_cancel_iff, ri_wpa, ri_wp, QMain_run_0, QMain_run_1, hpa, c_empty, hpr, hff, hne, c_abandon hq h2 hJ' hJ1']
end C16
