/-! the making of the reference; the world at the loop's begin; expanded by px.py out of k5.src -/
/-- what lies at the other places -/
def isM (n0 : Nat) (g : Nat → sC) : Prop := g 292 = .inr (8, [.ref (n0 + 293), .ref (n0 + 294), .ref (n0 + 295), .ref (n0 + 296), .ref (n0 + 297), .ref (n0 + 298), .int (ic 0), .int (ic 0), .int (-ic 1), .int (-ic 1), .int (ic 0), .int (ic 0), .int (ic 0), .ref (n0 + 299), .int (ic 0), .ref (n0 + 300), .ref (n0 + 301), .ref (n0 + 302), .int (ic 0), .int (ic 0), .int (ic 0), .int (ic 0), .int (ic 0)]) ∧ g 293 = zA 140 ∧ g 294 = zA 140 ∧ g 295 = zA 140 ∧ g 296 = zA 1120 ∧ g 297 = zA 6 ∧ g 298 = zA 6 ∧ g 299 = zA 100 ∧ g 300 = zA 60 ∧ g 301 = zA 32 ∧ g 302 = zA 192 ∧ g 303 = .inl (.long, (1, .inr (.inl (fun _ => 0)))) ∧ g 304 = .inl (.double, (1, .inr (.inr (.inr (.inl (fun _ => 0))))))
section K5
variable {n0 N z d J i b vj s : Nat} {S0 : Nat → Value} {G : sH} {f g : Nat → sC}
theorem c_Model_init (hf : f 292 = .inr (8, [.null, .null, .null, .null, .null, .null, .int (ic 0), .int (ic 0), .int (ic 0), .int (ic 0), .int (ic 0), .int (ic 0), .int (ic 0), .null, .int (ic 0), .null, .null, .null, .int (ic 0), .int (ic 0), .int (ic 0), .int (ic 0), .int (ic 0)])) (hg : ∀ k, k < 292 → g k = f k) (hM : isM n0 g) : Mt (n0, S0) (d + 1) 126 [.ref (n0 + 292)] (bk G n0 293 f, n0 + 293, z) = some (.inl none, (bk G n0 303 g, n0 + 303, z + 1936)) := by
  have hcb : componentBytes .int = 4 := rfl
  obtain ⟨m292, m293, m294, m295, m296, m297, m298, m299, m300, m301, m302, -, -⟩ := hM
  have e : ∀ h : Nat → sC, (∀ k, k < 303 → h k = g k) → bk G n0 303 h = bk G n0 303 g := fun h hh => bk_ext hh
  rw [NModel_init]
  simp (disch := first | assumption | (show (_ : Nat) < _; omega) | (show (_ : Nat) ≠ _; omega) | (show (_ : Nat) ≤ _; omega) | exact Or.inl rfl | exact Or.inr rfl) only [hG0, hG1, hG2, hF0, hF1, hA0, hA1, xL, xC, icL, Option.bind_some, Nat.le_add_right, Nat.le_refl, if_true, if_false, and_self, true_and, and_true, or_false, false_or, or_true, true_or, and_false, false_and, not_true_eq_false, not_false_eq_true, Nat.reduceAdd, Nat.reduceLeDiff, Nat.reduceLT, Option.toList_some, Option.toList_none, List.cons_append, List.nil_append, callK_ret, callR_ret, callK_thr, decide_true, Bool.true_and, xNr, bI0, bIT, bIF, ne_eq, Classical.not_not, not_false_eq_true, false_or, List.length_nil, icM, ic_lt, ic_eq, le_nl, ↓reduceIte, Nat.lt_irrefl, ri_ws, ri_wn, ri_as, ri_an, upd_s, upd_n, rp_wi, rp_wa, rl_wi, rl_wa, rl_wp, rl_wpa, rl_wl, rp_wl, ri_wl, rp_wd, ri_wd, in_rng, Int32.lt_irrefl, Nat.not_lt_zero, pk_nc, Nat.reduceEqDiff, Nat.succ_ne_self, Nat.one_ne_zero, Nat.add_left_cancel_iff, ri_wpa, ri_wp, QModel_init_0, QModel_init_1, QModel_init_2, QModel_init_3, hcb, ic_nat, bk_newu, bk_pfu, hf, pfc_o, uC_s, uC_n, uC_u, List.set_cons_zero, List.set_cons_succ, List.length_cons, Option.map_some, Nat.reduceMul, Nat.add_assoc]
  rw [e _ (fun k hk => ?_)]
  rcases (by omega : k < 292 ∨ k = 292 ∨ k = 293 ∨ k = 294 ∨ k = 295 ∨ k = 296 ∨ k = 297 ∨ k = 298 ∨ k = 299 ∨ k = 300 ∨ k = 301 ∨ k = 302) with h | rfl | rfl | rfl | rfl | rfl | rfl | rfl | rfl | rfl | rfl | rfl
  · have q : ∀ x, 292 ≤ x → k ≠ x := fun x hx => by omega
    simp [uC, q, hg k h]
  · simp [uC, m292]
  · simp [uC]; exact m293.symm
  · simp [uC]; exact m294.symm
  · simp [uC]; exact m295.symm
  · simp [uC]; exact m296.symm
  · simp [uC]; exact m297.symm
  · simp [uC]; exact m298.symm
  · simp [uC]; exact m299.symm
  · simp [uC]; exact m300.symm
  · simp [uC]; exact m301.symm
  · simp [uC]; exact m302.symm
theorem bk_zero : bk G n0 0 f = G := by
  funext q
  exact if_neg (by omega)
theorem law_init (h5 : S0 5 = .ref vj) (h0 : S0 0 = .int (ic 1)) (hW : isW n0 vj g) (hM : isM n0 g) : Rx (n0, S0) 41 289 0 [some (.ref s), none, none, none, none, none, none, none, none, none] [] (G, n0, z) = Rx (n0, S0) 41 289 28 [some (.ref s), some (.ref n0), some (.ref (n0 + 292)), some (.ref (n0 + 303)), some (.ref (n0 + 304)), some (.int (ic 0)), none, none, none, none] [] (bk G n0 305 g, n0 + 305, z + 3968) := by
  have hcl : componentBytes .long = 8 := rfl
  have hcd : componentBytes .double = 8 := rfl
  have n1 : hset G n0 (.inr (7, [.null, .null, .int (ic 0), .null, .null, .null, .null, .int (ic 0), .int (ic 0)])) = bk G n0 1 (fun _ => .inr (7, [.null, .null, .int (ic 0), .null, .null, .null, .null, .int (ic 0), .int (ic 0)])) := by
    have := bk_new (n0 := n0) (G := G) (J := 0) (f := g) (g := fun _ => .inr (7, [.null, .null, .int (ic 0), .null, .null, .null, .null, .int (ic 0), .int (ic 0)])) rfl (fun k hk => absurd hk (Nat.not_lt_zero k))
    rw [bk_zero] at this
    exact this
  have i1 := fun z => c_Main_init (n0 := n0) (S0 := S0) (G := G) (d := 37) (z := z) (f := fun _ => .inr (7, [.null, .null, .int (ic 0), .null, .null, .null, .null, .int (ic 0), .int (ic 0)])) (g := g) h5 h0 rfl hW
  have n2 : hset (bk G n0 292 g) (n0 + 292) (.inr (8, [.null, .null, .null, .null, .null, .null, .int (ic 0), .int (ic 0), .int (ic 0), .int (ic 0), .int (ic 0), .int (ic 0), .int (ic 0), .null, .int (ic 0), .null, .null, .null, .int (ic 0), .int (ic 0), .int (ic 0), .int (ic 0), .int (ic 0)])) = bk G n0 293 (uC g 292 (.inr (8, [.null, .null, .null, .null, .null, .null, .int (ic 0), .int (ic 0), .int (ic 0), .int (ic 0), .int (ic 0), .int (ic 0), .int (ic 0), .null, .int (ic 0), .null, .null, .null, .int (ic 0), .int (ic 0), .int (ic 0), .int (ic 0), .int (ic 0)]))) := bk_newu _
  have i2 := fun z => c_Model_init (n0 := n0) (S0 := S0) (G := G) (d := 40) (z := z) (f := uC g 292 (.inr (8, [.null, .null, .null, .null, .null, .null, .int (ic 0), .int (ic 0), .int (ic 0), .int (ic 0), .int (ic 0), .int (ic 0), .int (ic 0), .null, .int (ic 0), .null, .null, .null, .int (ic 0), .int (ic 0), .int (ic 0), .int (ic 0), .int (ic 0)]))) (g := g) (uC_s _) (fun k hk => (uC_n _ (by omega)).symm) hM
  obtain ⟨-, -, -, -, -, -, -, -, -, -, -, m303, m304⟩ := hM
  have n3 : hset (bk G n0 303 g) (n0 + 303) (.inl (.long, (1, .inr (.inl (fun _ => 0))))) = bk G n0 304 g := bk_new m303 (fun _ _ => rfl)
  have n4 : hset (bk G n0 304 g) (n0 + 304) (.inl (.double, (1, .inr (.inr (.inr (.inl (fun _ => 0))))))) = bk G n0 305 g := bk_new m304 (fun _ _ => rfl)
  simp (disch := first | assumption | (show (_ : Nat) < _; omega) | (show (_ : Nat) ≠ _; omega) | (show (_ : Nat) ≤ _; omega) | exact Or.inl rfl | exact Or.inr rfl) only [hG0, hG1, hG2, hF0, hF1, hA0, hA1, xL, xC, icL, Option.bind_some, Nat.le_add_right, Nat.le_refl, if_true, if_false, and_self, true_and, and_true, or_false, false_or, or_true, true_or, and_false, false_and, not_true_eq_false, not_false_eq_true, Nat.reduceAdd, Nat.reduceLeDiff, Nat.reduceLT, Option.toList_some, Option.toList_none, List.cons_append, List.nil_append, callK_ret, callR_ret, callK_thr, decide_true, Bool.true_and, xNr, bI0, bIT, bIF, ne_eq, Classical.not_not, not_false_eq_true, false_or, List.length_nil, icM, ic_lt, ic_eq, le_nl, ↓reduceIte, Nat.lt_irrefl, ri_ws, ri_wn, ri_as, ri_an, upd_s, upd_n, rp_wi, rp_wa, rl_wi, rl_wa, rl_wp, rl_wpa, rl_wl, rp_wl, ri_wl, rp_wd, ri_wd, in_rng, Int32.lt_irrefl, Nat.not_lt_zero, pk_nc, Nat.reduceEqDiff, Nat.succ_ne_self, Nat.one_ne_zero, Nat.add_left_cancel_iff, ri_wpa, ri_wp, QLaw_law_0, n1, i1, n2, i2, n3, n4, hcl, hcd, ic_nat, Nat.reduceMul, Nat.add_assoc]
end K5
