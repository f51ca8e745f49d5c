/-! the class's Planner: the next order; expanded by wip/whole/px.py out of wip/whole/c20.src -/
/-- the place before a fall, from place r - 1 downwards -/
def riseF (p : Nat → Nat) : Nat → Option Nat
  | 0 => none
  | r + 1 => if p (r + 1) < p r then riseF p r else some r
/-- the last place with a greater one than a's -/
def grF (p : Nat → Nat) (a : Nat) : Nat → Nat
  | 0 => 0
  | g + 1 => if a < g + 1 ∧ p (g + 1) < p a then grF p a g else g + 1
/-- the places from l to h reversed -/
def rvF : Nat → (Nat → Nat) → Nat → Nat → (Nat → Nat)
  | 0, u, _, _ => u
  | f + 1, u, l, h => if l < h then rvF f (swF u l h) (l + 1) (h - 1) else u
/-- u, brought into the order after p -/
def nxU (u p : Nat → Nat) (cnt : Nat) : Option (Nat → Nat) :=
  match riseF p (cnt - 1) with
  | none => none
  | some a => some (rvF 3 (swF u a (grF p a (cnt - 1))) (a + 1) (cnt - 1))
theorem riseF_lt {p : Nat → Nat} : ∀ {r a : Nat}, riseF p r = some a → a < r := by
  intro r
  induction r with
  | zero => intro a h; cases h
  | succ r ih =>
    intro a h
    unfold riseF at h
    split at h
    · have := ih h; omega
    · cases h; omega
theorem grF_le {p : Nat → Nat} {a : Nat} : ∀ g, grF p a g ≤ g := by
  intro g
  induction g with
  | zero => exact Nat.le_refl _
  | succ g ih => unfold grF; split <;> omega
section C20
variable {n0 N z d : Nat} {S0 : Nat → Value} {G : sH} {m : mm}
theorem wpa_wpa (m : mm) (k : Nat) (f g : Nat → Nat) : wpa (wpa m k f) k g = wpa m k g := by
  unfold wpa
  congr 2
  funext q j
  dsimp only
  split <;> rfl
theorem ic_m1 (r : Nat) : ic (r + 1) + -ic 1 = ic r := by
  rw [← ic_add]
  generalize ic r = x
  show x + ic 1 + -ic 1 = x
  rw [Int32.add_assoc, show ic 1 + -ic 1 = 0 from by decide, Int32.add_zero]
theorem c_swapU {u : Nat → Nat} {a b : Nat} (ha : a < 6) (hb : b < 6) (k1 : kd (u a) = 6) (k2 : kd (u b) = 6) : Mt (n0, S0) (d + 1) 28 [.ref (n0 + 256), .int (ic a), .int (ic b)] (hp n0 G (wpa m 257 u), N, z) = some (.inl none, (hp n0 G (wpa m 257 (swF u a b)), N, z)) := by
  have k256 : kd 256 = 10 := rfl
  have k257 : kd 257 = 11 := rfl
  have e : wp (wp (wpa m 257 u) 257 a (u b)) 257 b (u a) = wpa m 257 (swF u a b) := by
    rw [wp_wpa, wp_wpa]
    rfl
  rw [NPlanner_swap]
  simp (disch := first | assumption | (show (_ : Nat) < _; omega) | (show (_ : Nat) ≠ _; omega) | (show (_ : Nat) ≤ _; omega) | exact Or.inl rfl | exact Or.inr rfl) only [hG0, hG1, hG2, hF0, hF1, hA0, hA1, xL, xC, icL, Option.bind_some, Nat.le_add_right, Nat.le_refl, if_true, if_false, and_self, true_and, and_true, or_false, false_or, or_true, true_or, and_false, false_and, not_true_eq_false, not_false_eq_true, Nat.reduceAdd, Nat.reduceLeDiff, Nat.reduceLT, Option.toList_some, Option.toList_none, List.cons_append, List.nil_append, callK_ret, callR_ret, callK_thr, decide_true, Bool.true_and, xNr, bI0, bIT, bIF, ne_eq, Classical.not_not, not_false_eq_true, false_or, List.length_nil, icM, ic_lt, ic_eq, le_nl, ↓reduceIte, Nat.lt_irrefl, ri_ws, ri_wn, ri_as, ri_an, upd_s, upd_n, rp_wi, rp_wa, rl_wi, rl_wa, rl_wp, rl_wpa, rl_wl, rp_wl, ri_wl, rp_wd, ri_wd, in_rng, Int32.lt_irrefl, Nat.not_lt_zero, pk_nc, Nat.reduceEqDiff, Nat.succ_ne_self, Nat.one_ne_zero, Nat.add_left_cancel_iff, ri_wpa, ri_wp, QPlanner_swap_0, rp_wpa, e]
theorem swF_kd {u : Nat → Nat} {a b : Nat} (hu : ∀ i, i < 6 → kd (u i) = 6) (ha : a < 6) (hb : b < 6) : ∀ i, i < 6 → kd (swF u a b i) = 6 := by
  intro i hi
  unfold swF
  split
  · exact hu a ha
  · split
    · exact hu b hb
    · exact hu i hi
theorem c_rev {l1 : Option Value} {l2 : Int32} : ∀ (f : Nat) (u : Nat → Nat) (l h : Nat), (∀ i, i < 6 → kd (u i) = 6) → h < 6 → l < 7 → h ≤ l + 2 * f → ∀ N z d, Rx (n0, S0) (d + 1) 27 103 [some (.ref (n0 + 256)), l1, some (.int l2), some (.int (ic l)), some (.int (ic h))] [] (hp n0 G (wpa m 257 u), N, z) = oI n0 G (wpa m 257 (rvF f u l h)) N z (ic 1) := by
  have k256 : kd 256 = 10 := rfl
  have k257 : kd 257 = 11 := rfl
  intro f
  induction f with
  | zero =>
    intro u l h hu h6 h7 hf N z d
    have hl : ¬ l < h := by omega
    rw [HPlanner_goToNextOrder_103]
    simp (disch := first | assumption | (show (_ : Nat) < _; omega) | (show (_ : Nat) ≠ _; omega) | (show (_ : Nat) ≤ _; omega) | exact Or.inl rfl | exact Or.inr rfl) only [hG0, hG1, hG2, hF0, hF1, hA0, hA1, xL, xC, icL, Option.bind_some, Nat.le_add_right, Nat.le_refl, if_true, if_false, and_self, true_and, and_true, or_false, false_or, or_true, true_or, and_false, false_and, not_true_eq_false, not_false_eq_true, Nat.reduceAdd, Nat.reduceLeDiff, Nat.reduceLT, Option.toList_some, Option.toList_none, List.cons_append, List.nil_append, callK_ret, callR_ret, callK_thr, decide_true, Bool.true_and, xNr, bI0, bIT, bIF, ne_eq, Classical.not_not, not_false_eq_true, false_or, List.length_nil, icM, ic_lt, ic_eq, le_nl, ↓reduceIte, Nat.lt_irrefl, ri_ws, ri_wn, ri_as, ri_an, upd_s, upd_n, rp_wi, rp_wa, rl_wi, rl_wa, rl_wp, rl_wpa, rl_wl, rp_wl, ri_wl, rp_wd, ri_wd, in_rng, Int32.lt_irrefl, Nat.not_lt_zero, pk_nc, Nat.reduceEqDiff, Nat.succ_ne_self, Nat.one_ne_zero, Nat.add_left_cancel_iff, ri_wpa, ri_wp, QPlanner_goToNextOrder_0, QPlanner_goToNextOrder_1, QPlanner_goToNextOrder_2, hl, rvF]
  | succ f ih =>
    intro u l h hu h6 h7 hf N z d
    by_cases hl : l < h
    · obtain ⟨h', rfl⟩ : ∃ h', h = h' + 1 := ⟨h - 1, by omega⟩
      have hs := fun N z => c_swapU (n0 := n0) (S0 := S0) (G := G) (m := m) (d := d) (N := N) (z := z) (u := u) (a := l) (b := h' + 1) (by omega) h6 (hu l (by omega)) (hu _ h6)
      have hi := ih (swF u l (h' + 1)) (l + 1) h' (swF_kd hu (by omega) h6) (by omega) (by omega) (by omega)
      unfold rvF
      rw [if_pos hl, Nat.add_sub_cancel, HPlanner_goToNextOrder_103]
      simp (disch := first | assumption | (show (_ : Nat) < _; omega) | (show (_ : Nat) ≠ _; omega) | (show (_ : Nat) ≤ _; omega) | exact Or.inl rfl | exact Or.inr rfl) only [hG0, hG1, hG2, hF0, hF1, hA0, hA1, xL, xC, icL, Option.bind_some, Nat.le_add_right, Nat.le_refl, if_true, if_false, and_self, true_and, and_true, or_false, false_or, or_true, true_or, and_false, false_and, not_true_eq_false, not_false_eq_true, Nat.reduceAdd, Nat.reduceLeDiff, Nat.reduceLT, Option.toList_some, Option.toList_none, List.cons_append, List.nil_append, callK_ret, callR_ret, callK_thr, decide_true, Bool.true_and, xNr, bI0, bIT, bIF, ne_eq, Classical.not_not, not_false_eq_true, false_or, List.length_nil, icM, ic_lt, ic_eq, le_nl, ↓reduceIte, Nat.lt_irrefl, ri_ws, ri_wn, ri_as, ri_an, upd_s, upd_n, rp_wi, rp_wa, rl_wi, rl_wa, rl_wp, rl_wpa, rl_wl, rp_wl, ri_wl, rp_wd, ri_wd, in_rng, Int32.lt_irrefl, Nat.not_lt_zero, pk_nc, Nat.reduceEqDiff, Nat.succ_ne_self, Nat.one_ne_zero, Nat.add_left_cancel_iff, ri_wpa, ri_wp, QPlanner_goToNextOrder_0, QPlanner_goToNextOrder_1, QPlanner_goToNextOrder_2, hl, hs, ic_m1, ic_add, hi]
    · unfold rvF
      rw [if_neg hl, HPlanner_goToNextOrder_103]
      simp (disch := first | assumption | (show (_ : Nat) < _; omega) | (show (_ : Nat) ≠ _; omega) | (show (_ : Nat) ≤ _; omega) | exact Or.inl rfl | exact Or.inr rfl) only [hG0, hG1, hG2, hF0, hF1, hA0, hA1, xL, xC, icL, Option.bind_some, Nat.le_add_right, Nat.le_refl, if_true, if_false, and_self, true_and, and_true, or_false, false_or, or_true, true_or, and_false, false_and, not_true_eq_false, not_false_eq_true, Nat.reduceAdd, Nat.reduceLeDiff, Nat.reduceLT, Option.toList_some, Option.toList_none, List.cons_append, List.nil_append, callK_ret, callR_ret, callK_thr, decide_true, Bool.true_and, xNr, bI0, bIT, bIF, ne_eq, Classical.not_not, not_false_eq_true, false_or, List.length_nil, icM, ic_lt, ic_eq, le_nl, ↓reduceIte, Nat.lt_irrefl, ri_ws, ri_wn, ri_as, ri_an, upd_s, upd_n, rp_wi, rp_wa, rl_wi, rl_wa, rl_wp, rl_wpa, rl_wl, rp_wl, ri_wl, rp_wd, ri_wd, in_rng, Int32.lt_irrefl, Nat.not_lt_zero, pk_nc, Nat.reduceEqDiff, Nat.succ_ne_self, Nat.one_ne_zero, Nat.add_left_cancel_iff, ri_wpa, ri_wp, QPlanner_goToNextOrder_0, QPlanner_goToNextOrder_1, QPlanner_goToNextOrder_2, hl]
theorem c_gr {p u : Nat → Nat} {cnt a : Nat} (hu : ∀ i, i < 6 → kd (u i) = 6) (h6 : cnt ≤ 6) (hk : ∀ i, i < cnt → ∀ j, j < cnt → (ri m (u i) 0 < ri m (u j) 0) = (p i < p j)) (ha : a < cnt) : ∀ g, g < cnt → ∀ N z d, Rx (n0, S0) (d + 1) 27 53 [some (.ref (n0 + 256)), some (.int (ic a)), some (.int (ic g)), none, none] [] (hp n0 G (wpa m 257 u), N, z) = Rx (n0, S0) (d + 1) 27 85 [some (.ref (n0 + 256)), some (.int (ic a)), some (.int (ic (grF p a g))), none, none] [] (hp n0 G (wpa m 257 u), N, z) := by
  have k256 : kd 256 = 10 := rfl
  have k257 : kd 257 = 11 := rfl
  intro g
  induction g with
  | zero =>
    intro hg N z d
    have hl : ¬ a < 0 := by omega
    rw [HPlanner_goToNextOrder_53]
    simp (disch := first | assumption | (show (_ : Nat) < _; omega) | (show (_ : Nat) ≠ _; omega) | (show (_ : Nat) ≤ _; omega) | exact Or.inl rfl | exact Or.inr rfl) only [hG0, hG1, hG2, hF0, hF1, hA0, hA1, xL, xC, icL, Option.bind_some, Nat.le_add_right, Nat.le_refl, if_true, if_false, and_self, true_and, and_true, or_false, false_or, or_true, true_or, and_false, false_and, not_true_eq_false, not_false_eq_true, Nat.reduceAdd, Nat.reduceLeDiff, Nat.reduceLT, Option.toList_some, Option.toList_none, List.cons_append, List.nil_append, callK_ret, callR_ret, callK_thr, decide_true, Bool.true_and, xNr, bI0, bIT, bIF, ne_eq, Classical.not_not, not_false_eq_true, false_or, List.length_nil, icM, ic_lt, ic_eq, le_nl, ↓reduceIte, Nat.lt_irrefl, ri_ws, ri_wn, ri_as, ri_an, upd_s, upd_n, rp_wi, rp_wa, rl_wi, rl_wa, rl_wp, rl_wpa, rl_wl, rp_wl, ri_wl, rp_wd, ri_wd, in_rng, Int32.lt_irrefl, Nat.not_lt_zero, pk_nc, Nat.reduceEqDiff, Nat.succ_ne_self, Nat.one_ne_zero, Nat.add_left_cancel_iff, ri_wpa, ri_wp, QPlanner_goToNextOrder_0, QPlanner_goToNextOrder_1, QPlanner_goToNextOrder_2, hl, grF]
  | succ g ih =>
    intro hg N z d
    have e1 := hu (g + 1) (by omega)
    have e2 := hu a (by omega)
    have e3 := hk (g + 1) hg a ha
    have i1 := ih (by omega)
    unfold grF
    rw [HPlanner_goToNextOrder_53]
    by_cases h1 : a < g + 1
    · by_cases h2 : p (g + 1) < p a
      · rw [if_pos ⟨h1, h2⟩]
        simp (disch := first | assumption | (show (_ : Nat) < _; omega) | (show (_ : Nat) ≠ _; omega) | (show (_ : Nat) ≤ _; omega) | exact Or.inl rfl | exact Or.inr rfl) only [hG0, hG1, hG2, hF0, hF1, hA0, hA1, xL, xC, icL, Option.bind_some, Nat.le_add_right, Nat.le_refl, if_true, if_false, and_self, true_and, and_true, or_false, false_or, or_true, true_or, and_false, false_and, not_true_eq_false, not_false_eq_true, Nat.reduceAdd, Nat.reduceLeDiff, Nat.reduceLT, Option.toList_some, Option.toList_none, List.cons_append, List.nil_append, callK_ret, callR_ret, callK_thr, decide_true, Bool.true_and, xNr, bI0, bIT, bIF, ne_eq, Classical.not_not, not_false_eq_true, false_or, List.length_nil, icM, ic_lt, ic_eq, le_nl, ↓reduceIte, Nat.lt_irrefl, ri_ws, ri_wn, ri_as, ri_an, upd_s, upd_n, rp_wi, rp_wa, rl_wi, rl_wa, rl_wp, rl_wpa, rl_wl, rp_wl, ri_wl, rp_wd, ri_wd, in_rng, Int32.lt_irrefl, Nat.not_lt_zero, pk_nc, Nat.reduceEqDiff, Nat.succ_ne_self, Nat.one_ne_zero, Nat.add_left_cancel_iff, ri_wpa, ri_wp, QPlanner_goToNextOrder_0, QPlanner_goToNextOrder_1, QPlanner_goToNextOrder_2, h1, h2, e3, rp_wpa, ic_m1, i1]
      · rw [if_neg (fun h => h2 h.2)]
        simp (disch := first | assumption | (show (_ : Nat) < _; omega) | (show (_ : Nat) ≠ _; omega) | (show (_ : Nat) ≤ _; omega) | exact Or.inl rfl | exact Or.inr rfl) only [hG0, hG1, hG2, hF0, hF1, hA0, hA1, xL, xC, icL, Option.bind_some, Nat.le_add_right, Nat.le_refl, if_true, if_false, and_self, true_and, and_true, or_false, false_or, or_true, true_or, and_false, false_and, not_true_eq_false, not_false_eq_true, Nat.reduceAdd, Nat.reduceLeDiff, Nat.reduceLT, Option.toList_some, Option.toList_none, List.cons_append, List.nil_append, callK_ret, callR_ret, callK_thr, decide_true, Bool.true_and, xNr, bI0, bIT, bIF, ne_eq, Classical.not_not, not_false_eq_true, false_or, List.length_nil, icM, ic_lt, ic_eq, le_nl, ↓reduceIte, Nat.lt_irrefl, ri_ws, ri_wn, ri_as, ri_an, upd_s, upd_n, rp_wi, rp_wa, rl_wi, rl_wa, rl_wp, rl_wpa, rl_wl, rp_wl, ri_wl, rp_wd, ri_wd, in_rng, Int32.lt_irrefl, Nat.not_lt_zero, pk_nc, Nat.reduceEqDiff, Nat.succ_ne_self, Nat.one_ne_zero, Nat.add_left_cancel_iff, ri_wpa, ri_wp, QPlanner_goToNextOrder_0, QPlanner_goToNextOrder_1, QPlanner_goToNextOrder_2, h1, h2, e3, rp_wpa, ic_m1]
    · rw [if_neg (fun h => h1 h.1)]
      simp (disch := first | assumption | (show (_ : Nat) < _; omega) | (show (_ : Nat) ≠ _; omega) | (show (_ : Nat) ≤ _; omega) | exact Or.inl rfl | exact Or.inr rfl) only [hG0, hG1, hG2, hF0, hF1, hA0, hA1, xL, xC, icL, Option.bind_some, Nat.le_add_right, Nat.le_refl, if_true, if_false, and_self, true_and, and_true, or_false, false_or, or_true, true_or, and_false, false_and, not_true_eq_false, not_false_eq_true, Nat.reduceAdd, Nat.reduceLeDiff, Nat.reduceLT, Option.toList_some, Option.toList_none, List.cons_append, List.nil_append, callK_ret, callR_ret, callK_thr, decide_true, Bool.true_and, xNr, bI0, bIT, bIF, ne_eq, Classical.not_not, not_false_eq_true, false_or, List.length_nil, icM, ic_lt, ic_eq, le_nl, ↓reduceIte, Nat.lt_irrefl, ri_ws, ri_wn, ri_as, ri_an, upd_s, upd_n, rp_wi, rp_wa, rl_wi, rl_wa, rl_wp, rl_wpa, rl_wl, rp_wl, ri_wl, rp_wd, ri_wd, in_rng, Int32.lt_irrefl, Nat.not_lt_zero, pk_nc, Nat.reduceEqDiff, Nat.succ_ne_self, Nat.one_ne_zero, Nat.add_left_cancel_iff, ri_wpa, ri_wp, QPlanner_goToNextOrder_0, QPlanner_goToNextOrder_1, QPlanner_goToNextOrder_2, h1]
theorem c_rise {p u : Nat → Nat} {cnt : Nat} (hu : ∀ i, i < 6 → kd (u i) = 6) (h6 : cnt ≤ 6) (hk : ∀ i, i < cnt → ∀ j, j < cnt → (ri m (u i) 0 < ri m (u j) 0) = (p i < p j)) : ∀ r, r < cnt → ∀ N z d, Rx (n0, S0) (d + 1) 27 7 [some (.ref (n0 + 256)), some (.int (ic r + -ic 1)), none, none, none] [] (hp n0 G (wpa m 257 u), N, z) = match riseF p r with
    | none => oI n0 G (wpa m 257 u) N z (ic 0)
    | some a => Rx (n0, S0) (d + 1) 27 46 [some (.ref (n0 + 256)), some (.int (ic a)), none, none, none] [] (hp n0 G (wpa m 257 u), N, z) := by
  have k256 : kd 256 = 10 := rfl
  have k257 : kd 257 = 11 := rfl
  intro r
  induction r with
  | zero =>
    intro hg N z d
    have hl : ic 0 + -ic 1 < ic 0 := by decide
    rw [HPlanner_goToNextOrder_7]
    simp (disch := first | assumption | (show (_ : Nat) < _; omega) | (show (_ : Nat) ≠ _; omega) | (show (_ : Nat) ≤ _; omega) | exact Or.inl rfl | exact Or.inr rfl) only [hG0, hG1, hG2, hF0, hF1, hA0, hA1, xL, xC, icL, Option.bind_some, Nat.le_add_right, Nat.le_refl, if_true, if_false, and_self, true_and, and_true, or_false, false_or, or_true, true_or, and_false, false_and, not_true_eq_false, not_false_eq_true, Nat.reduceAdd, Nat.reduceLeDiff, Nat.reduceLT, Option.toList_some, Option.toList_none, List.cons_append, List.nil_append, callK_ret, callR_ret, callK_thr, decide_true, Bool.true_and, xNr, bI0, bIT, bIF, ne_eq, Classical.not_not, not_false_eq_true, false_or, List.length_nil, icM, ic_lt, ic_eq, le_nl, ↓reduceIte, Nat.lt_irrefl, ri_ws, ri_wn, ri_as, ri_an, upd_s, upd_n, rp_wi, rp_wa, rl_wi, rl_wa, rl_wp, rl_wpa, rl_wl, rp_wl, ri_wl, rp_wd, ri_wd, in_rng, Int32.lt_irrefl, Nat.not_lt_zero, pk_nc, Nat.reduceEqDiff, Nat.succ_ne_self, Nat.one_ne_zero, Nat.add_left_cancel_iff, ri_wpa, ri_wp, QPlanner_goToNextOrder_0, QPlanner_goToNextOrder_1, QPlanner_goToNextOrder_2, hl, riseF]
  | succ r ih =>
    intro hg N z d
    have e1 := hu (r + 1) (by omega)
    have e2 := hu r (by omega)
    have e3 := hk (r + 1) hg r (by omega)
    have i1 := ih (by omega)
    unfold riseF
    rw [HPlanner_goToNextOrder_7]
    by_cases h2 : p (r + 1) < p r
    · rw [if_pos h2]
      simp (disch := first | assumption | (show (_ : Nat) < _; omega) | (show (_ : Nat) ≠ _; omega) | (show (_ : Nat) ≤ _; omega) | exact Or.inl rfl | exact Or.inr rfl) only [hG0, hG1, hG2, hF0, hF1, hA0, hA1, xL, xC, icL, Option.bind_some, Nat.le_add_right, Nat.le_refl, if_true, if_false, and_self, true_and, and_true, or_false, false_or, or_true, true_or, and_false, false_and, not_true_eq_false, not_false_eq_true, Nat.reduceAdd, Nat.reduceLeDiff, Nat.reduceLT, Option.toList_some, Option.toList_none, List.cons_append, List.nil_append, callK_ret, callR_ret, callK_thr, decide_true, Bool.true_and, xNr, bI0, bIT, bIF, ne_eq, Classical.not_not, not_false_eq_true, false_or, List.length_nil, icM, ic_lt, ic_eq, le_nl, ↓reduceIte, Nat.lt_irrefl, ri_ws, ri_wn, ri_as, ri_an, upd_s, upd_n, rp_wi, rp_wa, rl_wi, rl_wa, rl_wp, rl_wpa, rl_wl, rp_wl, ri_wl, rp_wd, ri_wd, in_rng, Int32.lt_irrefl, Nat.not_lt_zero, pk_nc, Nat.reduceEqDiff, Nat.succ_ne_self, Nat.one_ne_zero, Nat.add_left_cancel_iff, ri_wpa, ri_wp, QPlanner_goToNextOrder_0, QPlanner_goToNextOrder_1, QPlanner_goToNextOrder_2, h2, e3, rp_wpa, ic_m1, ic_add, i1]
    · rw [if_neg h2]
      simp (disch := first | assumption | (show (_ : Nat) < _; omega) | (show (_ : Nat) ≠ _; omega) | (show (_ : Nat) ≤ _; omega) | exact Or.inl rfl | exact Or.inr rfl) only [hG0, hG1, hG2, hF0, hF1, hA0, hA1, xL, xC, icL, Option.bind_some, Nat.le_add_right, Nat.le_refl, if_true, if_false, and_self, true_and, and_true, or_false, false_or, or_true, true_or, and_false, false_and, not_true_eq_false, not_false_eq_true, Nat.reduceAdd, Nat.reduceLeDiff, Nat.reduceLT, Option.toList_some, Option.toList_none, List.cons_append, List.nil_append, callK_ret, callR_ret, callK_thr, decide_true, Bool.true_and, xNr, bI0, bIT, bIF, ne_eq, Classical.not_not, not_false_eq_true, false_or, List.length_nil, icM, ic_lt, ic_eq, le_nl, ↓reduceIte, Nat.lt_irrefl, ri_ws, ri_wn, ri_as, ri_an, upd_s, upd_n, rp_wi, rp_wa, rl_wi, rl_wa, rl_wp, rl_wpa, rl_wl, rp_wl, ri_wl, rp_wd, ri_wd, in_rng, Int32.lt_irrefl, Nat.not_lt_zero, pk_nc, Nat.reduceEqDiff, Nat.succ_ne_self, Nat.one_ne_zero, Nat.add_left_cancel_iff, ri_wpa, ri_wp, QPlanner_goToNextOrder_0, QPlanner_goToNextOrder_1, QPlanner_goToNextOrder_2, h2, e3, rp_wpa, ic_m1, ic_add]
theorem c_goToNextOrder {p u : Nat → Nat} {cnt : Nat} (h8 : ri m 256 8 = ic cnt) (hu : ∀ i, i < 6 → kd (u i) = 6) (h6 : cnt ≤ 6) (hk : ∀ i, i < cnt → ∀ j, j < cnt → (ri m (u i) 0 < ri m (u j) 0) = (p i < p j)) : Mt (n0, S0) (d + 2) 27 [.ref (n0 + 256)] (hp n0 G (wpa m 257 u), N, z) = match nxU u p cnt with
    | none => oI n0 G (wpa m 257 u) N z (ic 0)
    | some v => oI n0 G (wpa m 257 v) N z (ic 1) := by
  have k256 : kd 256 = 10 := rfl
  have k257 : kd 257 = 11 := rfl
  rw [NPlanner_goToNextOrder]
  rcases (show cnt = 0 ∨ ∃ r, cnt = r + 1 by rcases cnt with _ | r; exact Or.inl rfl; exact Or.inr ⟨r, rfl⟩) with rfl | ⟨r, rfl⟩
  · have hl : ic 0 - ic 2 < ic 0 := by decide
    simp (disch := first | assumption | (show (_ : Nat) < _; omega) | (show (_ : Nat) ≠ _; omega) | (show (_ : Nat) ≤ _; omega) | exact Or.inl rfl | exact Or.inr rfl) only [hG0, hG1, hG2, hF0, hF1, hA0, hA1, xL, xC, icL, Option.bind_some, Nat.le_add_right, Nat.le_refl, if_true, if_false, and_self, true_and, and_true, or_false, false_or, or_true, true_or, and_false, false_and, not_true_eq_false, not_false_eq_true, Nat.reduceAdd, Nat.reduceLeDiff, Nat.reduceLT, Option.toList_some, Option.toList_none, List.cons_append, List.nil_append, callK_ret, callR_ret, callK_thr, decide_true, Bool.true_and, xNr, bI0, bIT, bIF, ne_eq, Classical.not_not, not_false_eq_true, false_or, List.length_nil, icM, ic_lt, ic_eq, le_nl, ↓reduceIte, Nat.lt_irrefl, ri_ws, ri_wn, ri_as, ri_an, upd_s, upd_n, rp_wi, rp_wa, rl_wi, rl_wa, rl_wp, rl_wpa, rl_wl, rp_wl, ri_wl, rp_wd, ri_wd, in_rng, Int32.lt_irrefl, Nat.not_lt_zero, pk_nc, Nat.reduceEqDiff, Nat.succ_ne_self, Nat.one_ne_zero, Nat.add_left_cancel_iff, ri_wpa, ri_wp, QPlanner_goToNextOrder_0, QPlanner_goToNextOrder_1, QPlanner_goToNextOrder_2, h8]
    rw [HPlanner_goToNextOrder_7]
    simp (disch := first | assumption | (show (_ : Nat) < _; omega) | (show (_ : Nat) ≠ _; omega) | (show (_ : Nat) ≤ _; omega) | exact Or.inl rfl | exact Or.inr rfl) only [hG0, hG1, hG2, hF0, hF1, hA0, hA1, xL, xC, icL, Option.bind_some, Nat.le_add_right, Nat.le_refl, if_true, if_false, and_self, true_and, and_true, or_false, false_or, or_true, true_or, and_false, false_and, not_true_eq_false, not_false_eq_true, Nat.reduceAdd, Nat.reduceLeDiff, Nat.reduceLT, Option.toList_some, Option.toList_none, List.cons_append, List.nil_append, callK_ret, callR_ret, callK_thr, decide_true, Bool.true_and, xNr, bI0, bIT, bIF, ne_eq, Classical.not_not, not_false_eq_true, false_or, List.length_nil, icM, ic_lt, ic_eq, le_nl, ↓reduceIte, Nat.lt_irrefl, ri_ws, ri_wn, ri_as, ri_an, upd_s, upd_n, rp_wi, rp_wa, rl_wi, rl_wa, rl_wp, rl_wpa, rl_wl, rp_wl, ri_wl, rp_wd, ri_wd, in_rng, Int32.lt_irrefl, Nat.not_lt_zero, pk_nc, Nat.reduceEqDiff, Nat.succ_ne_self, Nat.one_ne_zero, Nat.add_left_cancel_iff, ri_wpa, ri_wp, QPlanner_goToNextOrder_0, QPlanner_goToNextOrder_1, QPlanner_goToNextOrder_2, hl]
    rfl
  · have e0 : ic (r + 1) - ic 2 = ic r + -ic 1 := by
      rw [← ic_add]
      generalize ic r = x
      rw [Int32.sub_eq_add_neg, Int32.add_assoc, show ic 1 + -ic 2 = -ic 1 from by decide]
    have e1 : ic (r + 1) - ic 1 = ic r := by rw [ic_sub (by omega)]; rfl
    have h1 := c_rise (n0 := n0) (S0 := S0) (G := G) hu h6 hk r (by omega) N z d
    simp (disch := first | assumption | (show (_ : Nat) < _; omega) | (show (_ : Nat) ≠ _; omega) | (show (_ : Nat) ≤ _; omega) | exact Or.inl rfl | exact Or.inr rfl) only [hG0, hG1, hG2, hF0, hF1, hA0, hA1, xL, xC, icL, Option.bind_some, Nat.le_add_right, Nat.le_refl, if_true, if_false, and_self, true_and, and_true, or_false, false_or, or_true, true_or, and_false, false_and, not_true_eq_false, not_false_eq_true, Nat.reduceAdd, Nat.reduceLeDiff, Nat.reduceLT, Option.toList_some, Option.toList_none, List.cons_append, List.nil_append, callK_ret, callR_ret, callK_thr, decide_true, Bool.true_and, xNr, bI0, bIT, bIF, ne_eq, Classical.not_not, not_false_eq_true, false_or, List.length_nil, icM, ic_lt, ic_eq, le_nl, ↓reduceIte, Nat.lt_irrefl, ri_ws, ri_wn, ri_as, ri_an, upd_s, upd_n, rp_wi, rp_wa, rl_wi, rl_wa, rl_wp, rl_wpa, rl_wl, rp_wl, ri_wl, rp_wd, ri_wd, in_rng, Int32.lt_irrefl, Nat.not_lt_zero, pk_nc, Nat.reduceEqDiff, Nat.succ_ne_self, Nat.one_ne_zero, Nat.add_left_cancel_iff, ri_wpa, ri_wp, QPlanner_goToNextOrder_0, QPlanner_goToNextOrder_1, QPlanner_goToNextOrder_2, h8, e0]
    rw [h1]
    unfold nxU
    rw [Nat.add_sub_cancel]
    rcases hr : riseF p r with _ | a
    · rfl
    · have ha := riseF_lt hr
      have hg := grF_le (p := p) (a := a) r
      have h2 := c_gr (n0 := n0) (S0 := S0) (G := G) hu h6 hk (a := a) (by omega) r (by omega) N z d
      dsimp only
      simp (disch := first | assumption | (show (_ : Nat) < _; omega) | (show (_ : Nat) ≠ _; omega) | (show (_ : Nat) ≤ _; omega) | exact Or.inl rfl | exact Or.inr rfl) only [hG0, hG1, hG2, hF0, hF1, hA0, hA1, xL, xC, icL, Option.bind_some, Nat.le_add_right, Nat.le_refl, if_true, if_false, and_self, true_and, and_true, or_false, false_or, or_true, true_or, and_false, false_and, not_true_eq_false, not_false_eq_true, Nat.reduceAdd, Nat.reduceLeDiff, Nat.reduceLT, Option.toList_some, Option.toList_none, List.cons_append, List.nil_append, callK_ret, callR_ret, callK_thr, decide_true, Bool.true_and, xNr, bI0, bIT, bIF, ne_eq, Classical.not_not, not_false_eq_true, false_or, List.length_nil, icM, ic_lt, ic_eq, le_nl, ↓reduceIte, Nat.lt_irrefl, ri_ws, ri_wn, ri_as, ri_an, upd_s, upd_n, rp_wi, rp_wa, rl_wi, rl_wa, rl_wp, rl_wpa, rl_wl, rp_wl, ri_wl, rp_wd, ri_wd, in_rng, Int32.lt_irrefl, Nat.not_lt_zero, pk_nc, Nat.reduceEqDiff, Nat.succ_ne_self, Nat.one_ne_zero, Nat.add_left_cancel_iff, ri_wpa, ri_wp, QPlanner_goToNextOrder_0, QPlanner_goToNextOrder_1, QPlanner_goToNextOrder_2, h8, e1]
      rw [h2]
      generalize hgg : grF p a r = g at *
      have hs := fun N z => c_swapU (n0 := n0) (S0 := S0) (G := G) (m := m) (d := d) (N := N) (z := z) (u := u) (a := a) (b := g) (by omega) (by omega) (hu _ (by omega)) (hu _ (by omega))
      have h3 := c_rev (n0 := n0) (S0 := S0) (G := G) (m := m) (l1 := some (.int (ic a))) (l2 := ic g) 3 (swF u a g) (a + 1) r (swF_kd hu (by omega) (by omega)) (by omega) (by omega) (by omega) N z d
      simp (disch := first | assumption | (show (_ : Nat) < _; omega) | (show (_ : Nat) ≠ _; omega) | (show (_ : Nat) ≤ _; omega) | exact Or.inl rfl | exact Or.inr rfl) only [hG0, hG1, hG2, hF0, hF1, hA0, hA1, xL, xC, icL, Option.bind_some, Nat.le_add_right, Nat.le_refl, if_true, if_false, and_self, true_and, and_true, or_false, false_or, or_true, true_or, and_false, false_and, not_true_eq_false, not_false_eq_true, Nat.reduceAdd, Nat.reduceLeDiff, Nat.reduceLT, Option.toList_some, Option.toList_none, List.cons_append, List.nil_append, callK_ret, callR_ret, callK_thr, decide_true, Bool.true_and, xNr, bI0, bIT, bIF, ne_eq, Classical.not_not, not_false_eq_true, false_or, List.length_nil, icM, ic_lt, ic_eq, le_nl, ↓reduceIte, Nat.lt_irrefl, ri_ws, ri_wn, ri_as, ri_an, upd_s, upd_n, rp_wi, rp_wa, rl_wi, rl_wa, rl_wp, rl_wpa, rl_wl, rp_wl, ri_wl, rp_wd, ri_wd, in_rng, Int32.lt_irrefl, Nat.not_lt_zero, pk_nc, Nat.reduceEqDiff, Nat.succ_ne_self, Nat.one_ne_zero, Nat.add_left_cancel_iff, ri_wpa, ri_wp, QPlanner_goToNextOrder_0, QPlanner_goToNextOrder_1, QPlanner_goToNextOrder_2, hs, h8, e1, ic_add, h3]
end C20
