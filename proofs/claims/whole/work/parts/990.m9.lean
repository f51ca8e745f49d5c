/-! the reference's next order; expanded by wip/whole/px.py out of wip/whole/m9.src -/
/-- an order of indices in the memory -/
abbrev vM (m : mm) (u : Nat → Nat) : mm := wa m 297 (fun i => ic (u i))
section M9
variable {n0 N z d : Nat} {S0 : Nat → Value} {G : sH} {m : mm}
theorem swU (u : Nat → Nat) (a b : Nat) : upd (upd (fun i => ic (u i)) a (ic (u b))) b (ic (u a)) = fun i => ic (swF u a b i) := by
  funext j
  unfold upd swF
  split
  · rfl
  · split <;> rfl
theorem m_swap {u : Nat → Nat} {a b : Nat} (ha : a < 6) (hb : b < 6) : Mt (n0, S0) (d + 1) 209 [.ref (n0 + 292), .int (ic a), .int (ic b)] (hp n0 G (vM m u), N, z) = some (.inl none, (hp n0 G (vM m (swF u a b)), N, z)) := by
  have k292 : kd 292 = 18 := rfl
  have k297 : kd 297 = 5 := rfl
  have e : wi (wi (vM m u) 297 a (ic (u b))) 297 b (ic (u a)) = vM m (swF u a b) := by
    unfold vM
    rw [wi_wa, wi_wa, swU]
  rw [NModel_swap]
  simp (disch := first | assumption | (show (_ : Nat) < _; omega) | (show (_ : Nat) ≠ _; omega) | (show (_ : Nat) ≤ _; omega) | exact Or.inl rfl | exact Or.inr rfl) only [hG0, hG1, hG2, hF0, hF1, hA0, hA1, xL, xC, icL, Option.bind_some, Nat.le_add_right, Nat.le_refl, if_true, if_false, and_self, true_and, and_true, or_false, false_or, or_true, true_or, and_false, false_and, not_true_eq_false, not_false_eq_true, Nat.reduceAdd, Nat.reduceLeDiff, Nat.reduceLT, Option.toList_some, Option.toList_none, List.cons_append, List.nil_append, callK_ret, callR_ret, callK_thr, decide_true, Bool.true_and, xNr, bI0, bIT, bIF, ne_eq, Classical.not_not, not_false_eq_true, false_or, List.length_nil, icM, ic_lt, ic_eq, le_nl, ↓reduceIte, Nat.lt_irrefl, ri_ws, ri_wn, ri_as, ri_an, upd_s, upd_n, rp_wi, rp_wa, rl_wi, rl_wa, rl_wp, rl_wpa, rl_wl, rp_wl, ri_wl, rp_wd, ri_wd, in_rng, Int32.lt_irrefl, Nat.not_lt_zero, pk_nc, Nat.reduceEqDiff, Nat.succ_ne_self, Nat.one_ne_zero, Nat.add_left_cancel_iff, ri_wpa, ri_wp, QModel_swap_0, e]
theorem riseF_ge {p : Nat → Nat} : ∀ {r a : Nat}, riseF p r = some a → ¬ p (a + 1) < p a := by
  intro r
  induction r with
  | zero => intro a h; cases h
  | succ r ih =>
    intro a h
    unfold riseF at h
    split at h
    · exact ih h
    · rename_i h2
      cases h
      exact h2
theorem m_rev {l1 : Int32} {l2 : Int32} : ∀ (f : Nat) (u : Nat → Nat) (l h : Nat), h < 6 → l < 7 → h ≤ l + 2 * f → ∀ N z d, Rx (n0, S0) (d + 1) 208 86 [some (.ref (n0 + 292)), some (.int l1), some (.int l2), some (.int (ic l)), some (.int (ic h))] [] (hp n0 G (vM m u), N, z) = oI n0 G (vM m (rvF f u l h)) N z (ic 1) := by
  have k292 : kd 292 = 18 := rfl
  have k297 : kd 297 = 5 := rfl
  intro f
  induction f with
  | zero =>
    intro u l h h6 h7 hf N z d
    have hl : ¬ l < h := by omega
    rw [HModel_hasNextOrder_86]
    simp (disch := first | assumption | (show (_ : Nat) < _; omega) | (show (_ : Nat) ≠ _; omega) | (show (_ : Nat) ≤ _; omega) | exact Or.inl rfl | exact Or.inr rfl) only [hG0, hG1, hG2, hF0, hF1, hA0, hA1, xL, xC, icL, Option.bind_some, Nat.le_add_right, Nat.le_refl, if_true, if_false, and_self, true_and, and_true, or_false, false_or, or_true, true_or, and_false, false_and, not_true_eq_false, not_false_eq_true, Nat.reduceAdd, Nat.reduceLeDiff, Nat.reduceLT, Option.toList_some, Option.toList_none, List.cons_append, List.nil_append, callK_ret, callR_ret, callK_thr, decide_true, Bool.true_and, xNr, bI0, bIT, bIF, ne_eq, Classical.not_not, not_false_eq_true, false_or, List.length_nil, icM, ic_lt, ic_eq, le_nl, ↓reduceIte, Nat.lt_irrefl, ri_ws, ri_wn, ri_as, ri_an, upd_s, upd_n, rp_wi, rp_wa, rl_wi, rl_wa, rl_wp, rl_wpa, rl_wl, rp_wl, ri_wl, rp_wd, ri_wd, in_rng, Int32.lt_irrefl, Nat.not_lt_zero, pk_nc, Nat.reduceEqDiff, Nat.succ_ne_self, Nat.one_ne_zero, Nat.add_left_cancel_iff, ri_wpa, ri_wp, QModel_hasNextOrder_0, QModel_hasNextOrder_1, QModel_hasNextOrder_2, hl, rvF]
  | succ f ih =>
    intro u l h h6 h7 hf N z d
    by_cases hl : l < h
    · obtain ⟨h', rfl⟩ : ∃ h', h = h' + 1 := ⟨h - 1, by omega⟩
      have hs := fun N z => m_swap (n0 := n0) (S0 := S0) (G := G) (m := m) (d := d) (N := N) (z := z) (u := u) (a := l) (b := h' + 1) (by omega) h6
      have hi := ih (swF u l (h' + 1)) (l + 1) h' (by omega) (by omega) (by omega)
      unfold rvF
      rw [if_pos hl, Nat.add_sub_cancel, HModel_hasNextOrder_86]
      simp (disch := first | assumption | (show (_ : Nat) < _; omega) | (show (_ : Nat) ≠ _; omega) | (show (_ : Nat) ≤ _; omega) | exact Or.inl rfl | exact Or.inr rfl) only [hG0, hG1, hG2, hF0, hF1, hA0, hA1, xL, xC, icL, Option.bind_some, Nat.le_add_right, Nat.le_refl, if_true, if_false, and_self, true_and, and_true, or_false, false_or, or_true, true_or, and_false, false_and, not_true_eq_false, not_false_eq_true, Nat.reduceAdd, Nat.reduceLeDiff, Nat.reduceLT, Option.toList_some, Option.toList_none, List.cons_append, List.nil_append, callK_ret, callR_ret, callK_thr, decide_true, Bool.true_and, xNr, bI0, bIT, bIF, ne_eq, Classical.not_not, not_false_eq_true, false_or, List.length_nil, icM, ic_lt, ic_eq, le_nl, ↓reduceIte, Nat.lt_irrefl, ri_ws, ri_wn, ri_as, ri_an, upd_s, upd_n, rp_wi, rp_wa, rl_wi, rl_wa, rl_wp, rl_wpa, rl_wl, rp_wl, ri_wl, rp_wd, ri_wd, in_rng, Int32.lt_irrefl, Nat.not_lt_zero, pk_nc, Nat.reduceEqDiff, Nat.succ_ne_self, Nat.one_ne_zero, Nat.add_left_cancel_iff, ri_wpa, ri_wp, QModel_hasNextOrder_0, QModel_hasNextOrder_1, QModel_hasNextOrder_2, hl, hs, ic_m1, ic_add, hi]
    · unfold rvF
      rw [if_neg hl, HModel_hasNextOrder_86]
      simp (disch := first | assumption | (show (_ : Nat) < _; omega) | (show (_ : Nat) ≠ _; omega) | (show (_ : Nat) ≤ _; omega) | exact Or.inl rfl | exact Or.inr rfl) only [hG0, hG1, hG2, hF0, hF1, hA0, hA1, xL, xC, icL, Option.bind_some, Nat.le_add_right, Nat.le_refl, if_true, if_false, and_self, true_and, and_true, or_false, false_or, or_true, true_or, and_false, false_and, not_true_eq_false, not_false_eq_true, Nat.reduceAdd, Nat.reduceLeDiff, Nat.reduceLT, Option.toList_some, Option.toList_none, List.cons_append, List.nil_append, callK_ret, callR_ret, callK_thr, decide_true, Bool.true_and, xNr, bI0, bIT, bIF, ne_eq, Classical.not_not, not_false_eq_true, false_or, List.length_nil, icM, ic_lt, ic_eq, le_nl, ↓reduceIte, Nat.lt_irrefl, ri_ws, ri_wn, ri_as, ri_an, upd_s, upd_n, rp_wi, rp_wa, rl_wi, rl_wa, rl_wp, rl_wpa, rl_wl, rp_wl, ri_wl, rp_wd, ri_wd, in_rng, Int32.lt_irrefl, Nat.not_lt_zero, pk_nc, Nat.reduceEqDiff, Nat.succ_ne_self, Nat.one_ne_zero, Nat.add_left_cancel_iff, ri_wpa, ri_wp, QModel_hasNextOrder_0, QModel_hasNextOrder_1, QModel_hasNextOrder_2, hl]
theorem m_gr {u : Nat → Nat} {cnt a : Nat} (h6 : cnt ≤ 6) (hk : ∀ i, i < cnt → u i < 1000) (ha : ¬ u (a + 1) < u a) : ∀ g, g < cnt → a < g → ∀ N z d, Rx (n0, S0) (d + 1) 208 47 [some (.ref (n0 + 292)), some (.int (ic a)), some (.int (ic g)), none, none] [] (hp n0 G (vM m u), N, z) = Rx (n0, S0) (d + 1) 208 68 [some (.ref (n0 + 292)), some (.int (ic a)), some (.int (ic (grF u a g))), none, none] [] (hp n0 G (vM m u), N, z) := by
  have k292 : kd 292 = 18 := rfl
  have k297 : kd 297 = 5 := rfl
  intro g
  induction g with
  | zero => intro hg h1; omega
  | succ g ih =>
    intro hg h1 N z d
    have e1 := hk (g + 1) hg
    have e2 := hk a (by omega)
    unfold grF
    rw [HModel_hasNextOrder_47_1]
    by_cases h2 : u (g + 1) < u a
    · have hag : a ≠ g := fun e => ha (by rw [e]; rw [e] at h2; exact h2)
      have i1 := ih (by omega) (by omega)
      rw [if_pos ⟨h1, h2⟩]
      simp (disch := first | assumption | (show (_ : Nat) < _; omega) | (show (_ : Nat) ≠ _; omega) | (show (_ : Nat) ≤ _; omega) | exact Or.inl rfl | exact Or.inr rfl) only [hG0, hG1, hG2, hF0, hF1, hA0, hA1, xL, xC, icL, Option.bind_some, Nat.le_add_right, Nat.le_refl, if_true, if_false, and_self, true_and, and_true, or_false, false_or, or_true, true_or, and_false, false_and, not_true_eq_false, not_false_eq_true, Nat.reduceAdd, Nat.reduceLeDiff, Nat.reduceLT, Option.toList_some, Option.toList_none, List.cons_append, List.nil_append, callK_ret, callR_ret, callK_thr, decide_true, Bool.true_and, xNr, bI0, bIT, bIF, ne_eq, Classical.not_not, not_false_eq_true, false_or, List.length_nil, icM, ic_lt, ic_eq, le_nl, ↓reduceIte, Nat.lt_irrefl, ri_ws, ri_wn, ri_as, ri_an, upd_s, upd_n, rp_wi, rp_wa, rl_wi, rl_wa, rl_wp, rl_wpa, rl_wl, rp_wl, ri_wl, rp_wd, ri_wd, in_rng, Int32.lt_irrefl, Nat.not_lt_zero, pk_nc, Nat.reduceEqDiff, Nat.succ_ne_self, Nat.one_ne_zero, Nat.add_left_cancel_iff, ri_wpa, ri_wp, QModel_hasNextOrder_0, QModel_hasNextOrder_1, QModel_hasNextOrder_2, h2, ic_m1, i1]
    · rw [if_neg (fun h => h2 h.2)]
      simp (disch := first | assumption | (show (_ : Nat) < _; omega) | (show (_ : Nat) ≠ _; omega) | (show (_ : Nat) ≤ _; omega) | exact Or.inl rfl | exact Or.inr rfl) only [hG0, hG1, hG2, hF0, hF1, hA0, hA1, xL, xC, icL, Option.bind_some, Nat.le_add_right, Nat.le_refl, if_true, if_false, and_self, true_and, and_true, or_false, false_or, or_true, true_or, and_false, false_and, not_true_eq_false, not_false_eq_true, Nat.reduceAdd, Nat.reduceLeDiff, Nat.reduceLT, Option.toList_some, Option.toList_none, List.cons_append, List.nil_append, callK_ret, callR_ret, callK_thr, decide_true, Bool.true_and, xNr, bI0, bIT, bIF, ne_eq, Classical.not_not, not_false_eq_true, false_or, List.length_nil, icM, ic_lt, ic_eq, le_nl, ↓reduceIte, Nat.lt_irrefl, ri_ws, ri_wn, ri_as, ri_an, upd_s, upd_n, rp_wi, rp_wa, rl_wi, rl_wa, rl_wp, rl_wpa, rl_wl, rp_wl, ri_wl, rp_wd, ri_wd, in_rng, Int32.lt_irrefl, Nat.not_lt_zero, pk_nc, Nat.reduceEqDiff, Nat.succ_ne_self, Nat.one_ne_zero, Nat.add_left_cancel_iff, ri_wpa, ri_wp, QModel_hasNextOrder_0, QModel_hasNextOrder_1, QModel_hasNextOrder_2, h2, ic_m1]
theorem m_rise {u : Nat → Nat} {cnt : Nat} (h6 : cnt ≤ 6) (hk : ∀ i, i < cnt → u i < 1000) : ∀ r, r < cnt → ∀ N z d, Rx (n0, S0) (d + 1) 208 7 [some (.ref (n0 + 292)), some (.int (ic r + -ic 1)), none, none, none] [] (hp n0 G (vM m u), N, z) = match riseF u r with
    | none => oI n0 G (vM m u) N z (ic 0)
    | some a => Rx (n0, S0) (d + 1) 208 40 [some (.ref (n0 + 292)), some (.int (ic a)), none, none, none] [] (hp n0 G (vM m u), N, z) := by
  have k292 : kd 292 = 18 := rfl
  have k297 : kd 297 = 5 := rfl
  intro r
  induction r with
  | zero =>
    intro hg N z d
    have hl : ic 0 + -ic 1 < ic 0 := by decide
    rw [HModel_hasNextOrder_7]
    simp (disch := first | assumption | (show (_ : Nat) < _; omega) | (show (_ : Nat) ≠ _; omega) | (show (_ : Nat) ≤ _; omega) | exact Or.inl rfl | exact Or.inr rfl) only [hG0, hG1, hG2, hF0, hF1, hA0, hA1, xL, xC, icL, Option.bind_some, Nat.le_add_right, Nat.le_refl, if_true, if_false, and_self, true_and, and_true, or_false, false_or, or_true, true_or, and_false, false_and, not_true_eq_false, not_false_eq_true, Nat.reduceAdd, Nat.reduceLeDiff, Nat.reduceLT, Option.toList_some, Option.toList_none, List.cons_append, List.nil_append, callK_ret, callR_ret, callK_thr, decide_true, Bool.true_and, xNr, bI0, bIT, bIF, ne_eq, Classical.not_not, not_false_eq_true, false_or, List.length_nil, icM, ic_lt, ic_eq, le_nl, ↓reduceIte, Nat.lt_irrefl, ri_ws, ri_wn, ri_as, ri_an, upd_s, upd_n, rp_wi, rp_wa, rl_wi, rl_wa, rl_wp, rl_wpa, rl_wl, rp_wl, ri_wl, rp_wd, ri_wd, in_rng, Int32.lt_irrefl, Nat.not_lt_zero, pk_nc, Nat.reduceEqDiff, Nat.succ_ne_self, Nat.one_ne_zero, Nat.add_left_cancel_iff, ri_wpa, ri_wp, QModel_hasNextOrder_0, QModel_hasNextOrder_1, QModel_hasNextOrder_2, hl, riseF]
  | succ r ih =>
    intro hg N z d
    have e1 := hk (r + 1) hg
    have e2 := hk r (by omega)
    have i1 := ih (by omega)
    unfold riseF
    rw [HModel_hasNextOrder_7]
    by_cases h2 : u (r + 1) < u r
    · rw [if_pos h2]
      simp (disch := first | assumption | (show (_ : Nat) < _; omega) | (show (_ : Nat) ≠ _; omega) | (show (_ : Nat) ≤ _; omega) | exact Or.inl rfl | exact Or.inr rfl) only [hG0, hG1, hG2, hF0, hF1, hA0, hA1, xL, xC, icL, Option.bind_some, Nat.le_add_right, Nat.le_refl, if_true, if_false, and_self, true_and, and_true, or_false, false_or, or_true, true_or, and_false, false_and, not_true_eq_false, not_false_eq_true, Nat.reduceAdd, Nat.reduceLeDiff, Nat.reduceLT, Option.toList_some, Option.toList_none, List.cons_append, List.nil_append, callK_ret, callR_ret, callK_thr, decide_true, Bool.true_and, xNr, bI0, bIT, bIF, ne_eq, Classical.not_not, not_false_eq_true, false_or, List.length_nil, icM, ic_lt, ic_eq, le_nl, ↓reduceIte, Nat.lt_irrefl, ri_ws, ri_wn, ri_as, ri_an, upd_s, upd_n, rp_wi, rp_wa, rl_wi, rl_wa, rl_wp, rl_wpa, rl_wl, rp_wl, ri_wl, rp_wd, ri_wd, in_rng, Int32.lt_irrefl, Nat.not_lt_zero, pk_nc, Nat.reduceEqDiff, Nat.succ_ne_self, Nat.one_ne_zero, Nat.add_left_cancel_iff, ri_wpa, ri_wp, QModel_hasNextOrder_0, QModel_hasNextOrder_1, QModel_hasNextOrder_2, h2, ic_m1, ic_add, i1]
    · rw [if_neg h2]
      simp (disch := first | assumption | (show (_ : Nat) < _; omega) | (show (_ : Nat) ≠ _; omega) | (show (_ : Nat) ≤ _; omega) | exact Or.inl rfl | exact Or.inr rfl) only [hG0, hG1, hG2, hF0, hF1, hA0, hA1, xL, xC, icL, Option.bind_some, Nat.le_add_right, Nat.le_refl, if_true, if_false, and_self, true_and, and_true, or_false, false_or, or_true, true_or, and_false, false_and, not_true_eq_false, not_false_eq_true, Nat.reduceAdd, Nat.reduceLeDiff, Nat.reduceLT, Option.toList_some, Option.toList_none, List.cons_append, List.nil_append, callK_ret, callR_ret, callK_thr, decide_true, Bool.true_and, xNr, bI0, bIT, bIF, ne_eq, Classical.not_not, not_false_eq_true, false_or, List.length_nil, icM, ic_lt, ic_eq, le_nl, ↓reduceIte, Nat.lt_irrefl, ri_ws, ri_wn, ri_as, ri_an, upd_s, upd_n, rp_wi, rp_wa, rl_wi, rl_wa, rl_wp, rl_wpa, rl_wl, rp_wl, ri_wl, rp_wd, ri_wd, in_rng, Int32.lt_irrefl, Nat.not_lt_zero, pk_nc, Nat.reduceEqDiff, Nat.succ_ne_self, Nat.one_ne_zero, Nat.add_left_cancel_iff, ri_wpa, ri_wp, QModel_hasNextOrder_0, QModel_hasNextOrder_1, QModel_hasNextOrder_2, h2, ic_m1, ic_add]
theorem m_hasNextOrder {u : Nat → Nat} {cnt : Nat} (h8 : ri m 292 10 = ic cnt) (h6 : cnt ≤ 6) (hk : ∀ i, i < cnt → u i < 1000) : Mt (n0, S0) (d + 2) 208 [.ref (n0 + 292)] (hp n0 G (vM m u), N, z) = match nxU u u cnt with
    | none => oI n0 G (vM m u) N z (ic 0)
    | some v => oI n0 G (vM m v) N z (ic 1) := by
  have k292 : kd 292 = 18 := rfl
  have k297 : kd 297 = 5 := rfl
  rw [NModel_hasNextOrder]
  rcases (show cnt = 0 ∨ ∃ r, cnt = r + 1 by rcases cnt with _ | r; exact Or.inl rfl; exact Or.inr ⟨r, rfl⟩) with rfl | ⟨r, rfl⟩
  · have hl : ic 0 - ic 2 < ic 0 := by decide
    simp (disch := first | assumption | (show (_ : Nat) < _; omega) | (show (_ : Nat) ≠ _; omega) | (show (_ : Nat) ≤ _; omega) | exact Or.inl rfl | exact Or.inr rfl) only [hG0, hG1, hG2, hF0, hF1, hA0, hA1, xL, xC, icL, Option.bind_some, Nat.le_add_right, Nat.le_refl, if_true, if_false, and_self, true_and, and_true, or_false, false_or, or_true, true_or, and_false, false_and, not_true_eq_false, not_false_eq_true, Nat.reduceAdd, Nat.reduceLeDiff, Nat.reduceLT, Option.toList_some, Option.toList_none, List.cons_append, List.nil_append, callK_ret, callR_ret, callK_thr, decide_true, Bool.true_and, xNr, bI0, bIT, bIF, ne_eq, Classical.not_not, not_false_eq_true, false_or, List.length_nil, icM, ic_lt, ic_eq, le_nl, ↓reduceIte, Nat.lt_irrefl, ri_ws, ri_wn, ri_as, ri_an, upd_s, upd_n, rp_wi, rp_wa, rl_wi, rl_wa, rl_wp, rl_wpa, rl_wl, rp_wl, ri_wl, rp_wd, ri_wd, in_rng, Int32.lt_irrefl, Nat.not_lt_zero, pk_nc, Nat.reduceEqDiff, Nat.succ_ne_self, Nat.one_ne_zero, Nat.add_left_cancel_iff, ri_wpa, ri_wp, QModel_hasNextOrder_0, QModel_hasNextOrder_1, QModel_hasNextOrder_2, h8]
    rw [HModel_hasNextOrder_7]
    simp (disch := first | assumption | (show (_ : Nat) < _; omega) | (show (_ : Nat) ≠ _; omega) | (show (_ : Nat) ≤ _; omega) | exact Or.inl rfl | exact Or.inr rfl) only [hG0, hG1, hG2, hF0, hF1, hA0, hA1, xL, xC, icL, Option.bind_some, Nat.le_add_right, Nat.le_refl, if_true, if_false, and_self, true_and, and_true, or_false, false_or, or_true, true_or, and_false, false_and, not_true_eq_false, not_false_eq_true, Nat.reduceAdd, Nat.reduceLeDiff, Nat.reduceLT, Option.toList_some, Option.toList_none, List.cons_append, List.nil_append, callK_ret, callR_ret, callK_thr, decide_true, Bool.true_and, xNr, bI0, bIT, bIF, ne_eq, Classical.not_not, not_false_eq_true, false_or, List.length_nil, icM, ic_lt, ic_eq, le_nl, ↓reduceIte, Nat.lt_irrefl, ri_ws, ri_wn, ri_as, ri_an, upd_s, upd_n, rp_wi, rp_wa, rl_wi, rl_wa, rl_wp, rl_wpa, rl_wl, rp_wl, ri_wl, rp_wd, ri_wd, in_rng, Int32.lt_irrefl, Nat.not_lt_zero, pk_nc, Nat.reduceEqDiff, Nat.succ_ne_self, Nat.one_ne_zero, Nat.add_left_cancel_iff, ri_wpa, ri_wp, QModel_hasNextOrder_0, QModel_hasNextOrder_1, QModel_hasNextOrder_2, hl]
    rfl
  · have e0 : ic (r + 1) - ic 2 = ic r + -ic 1 := by
      rw [← ic_add]
      generalize ic r = x
      rw [Int32.sub_eq_add_neg, Int32.add_assoc, show ic 1 + -ic 2 = -ic 1 from by decide]
    have e1 : ic (r + 1) - ic 1 = ic r := by rw [ic_sub (by omega)]; rfl
    have h1 := m_rise (n0 := n0) (S0 := S0) (G := G) (m := m) h6 hk r (by omega) N z d
    simp (disch := first | assumption | (show (_ : Nat) < _; omega) | (show (_ : Nat) ≠ _; omega) | (show (_ : Nat) ≤ _; omega) | exact Or.inl rfl | exact Or.inr rfl) only [hG0, hG1, hG2, hF0, hF1, hA0, hA1, xL, xC, icL, Option.bind_some, Nat.le_add_right, Nat.le_refl, if_true, if_false, and_self, true_and, and_true, or_false, false_or, or_true, true_or, and_false, false_and, not_true_eq_false, not_false_eq_true, Nat.reduceAdd, Nat.reduceLeDiff, Nat.reduceLT, Option.toList_some, Option.toList_none, List.cons_append, List.nil_append, callK_ret, callR_ret, callK_thr, decide_true, Bool.true_and, xNr, bI0, bIT, bIF, ne_eq, Classical.not_not, not_false_eq_true, false_or, List.length_nil, icM, ic_lt, ic_eq, le_nl, ↓reduceIte, Nat.lt_irrefl, ri_ws, ri_wn, ri_as, ri_an, upd_s, upd_n, rp_wi, rp_wa, rl_wi, rl_wa, rl_wp, rl_wpa, rl_wl, rp_wl, ri_wl, rp_wd, ri_wd, in_rng, Int32.lt_irrefl, Nat.not_lt_zero, pk_nc, Nat.reduceEqDiff, Nat.succ_ne_self, Nat.one_ne_zero, Nat.add_left_cancel_iff, ri_wpa, ri_wp, QModel_hasNextOrder_0, QModel_hasNextOrder_1, QModel_hasNextOrder_2, h8, e0]
    rw [h1]
    unfold nxU
    rw [Nat.add_sub_cancel]
    rcases hr : riseF u r with _ | a
    · rfl
    · have ha := riseF_lt hr
      have hge := riseF_ge hr
      have hg := grF_le (p := u) (a := a) r
      have h2 := m_gr (n0 := n0) (S0 := S0) (G := G) (m := m) h6 hk hge r (by omega) ha N z d
      dsimp only
      simp (disch := first | assumption | (show (_ : Nat) < _; omega) | (show (_ : Nat) ≠ _; omega) | (show (_ : Nat) ≤ _; omega) | exact Or.inl rfl | exact Or.inr rfl) only [hG0, hG1, hG2, hF0, hF1, hA0, hA1, xL, xC, icL, Option.bind_some, Nat.le_add_right, Nat.le_refl, if_true, if_false, and_self, true_and, and_true, or_false, false_or, or_true, true_or, and_false, false_and, not_true_eq_false, not_false_eq_true, Nat.reduceAdd, Nat.reduceLeDiff, Nat.reduceLT, Option.toList_some, Option.toList_none, List.cons_append, List.nil_append, callK_ret, callR_ret, callK_thr, decide_true, Bool.true_and, xNr, bI0, bIT, bIF, ne_eq, Classical.not_not, not_false_eq_true, false_or, List.length_nil, icM, ic_lt, ic_eq, le_nl, ↓reduceIte, Nat.lt_irrefl, ri_ws, ri_wn, ri_as, ri_an, upd_s, upd_n, rp_wi, rp_wa, rl_wi, rl_wa, rl_wp, rl_wpa, rl_wl, rp_wl, ri_wl, rp_wd, ri_wd, in_rng, Int32.lt_irrefl, Nat.not_lt_zero, pk_nc, Nat.reduceEqDiff, Nat.succ_ne_self, Nat.one_ne_zero, Nat.add_left_cancel_iff, ri_wpa, ri_wp, QModel_hasNextOrder_0, QModel_hasNextOrder_1, QModel_hasNextOrder_2, h8, e1]
      rw [h2]
      generalize hgg : grF u a r = g at *
      have hs := fun N z => m_swap (n0 := n0) (S0 := S0) (G := G) (m := m) (d := d) (N := N) (z := z) (u := u) (a := a) (b := g) (by omega) (by omega)
      have h3 := m_rev (n0 := n0) (S0 := S0) (G := G) (m := m) (l1 := ic a) (l2 := ic g) 3 (swF u a g) (a + 1) r (by omega) (by omega) (by omega) N z d
      simp (disch := first | assumption | (show (_ : Nat) < _; omega) | (show (_ : Nat) ≠ _; omega) | (show (_ : Nat) ≤ _; omega) | exact Or.inl rfl | exact Or.inr rfl) only [hG0, hG1, hG2, hF0, hF1, hA0, hA1, xL, xC, icL, Option.bind_some, Nat.le_add_right, Nat.le_refl, if_true, if_false, and_self, true_and, and_true, or_false, false_or, or_true, true_or, and_false, false_and, not_true_eq_false, not_false_eq_true, Nat.reduceAdd, Nat.reduceLeDiff, Nat.reduceLT, Option.toList_some, Option.toList_none, List.cons_append, List.nil_append, callK_ret, callR_ret, callK_thr, decide_true, Bool.true_and, xNr, bI0, bIT, bIF, ne_eq, Classical.not_not, not_false_eq_true, false_or, List.length_nil, icM, ic_lt, ic_eq, le_nl, ↓reduceIte, Nat.lt_irrefl, ri_ws, ri_wn, ri_as, ri_an, upd_s, upd_n, rp_wi, rp_wa, rl_wi, rl_wa, rl_wp, rl_wpa, rl_wl, rp_wl, ri_wl, rp_wd, ri_wd, in_rng, Int32.lt_irrefl, Nat.not_lt_zero, pk_nc, Nat.reduceEqDiff, Nat.succ_ne_self, Nat.one_ne_zero, Nat.add_left_cancel_iff, ri_wpa, ri_wp, QModel_hasNextOrder_0, QModel_hasNextOrder_1, QModel_hasNextOrder_2, hs, h8, e1, ic_add, h3]
end M9
