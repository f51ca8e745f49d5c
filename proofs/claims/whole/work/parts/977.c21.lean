/-! the class's Planner: the least lateness by orders; expanded by wip/whole/px.py out of wip/whole/c21.src -/
/-- an order of c places -/
def PB (c : Nat) (p : Nat → Nat) : Prop := ∀ i, i < c → p i < c
theorem swF_PB {c : Nat} {p : Nat → Nat} {a b : Nat} (h : PB c p) (ha : a < c) (hb : b < c) : PB c (swF p a b) := by
  intro i hi
  unfold swF
  split
  · exact h a ha
  · split
    · exact h b hb
    · exact h i hi
theorem rvF_PB {c : Nat} : ∀ (f : Nat) {p : Nat → Nat} {l h : Nat}, PB c p → h < c → PB c (rvF f p l h) := by
  intro f
  induction f with
  | zero => intro p l h hp _; exact hp
  | succ f ih =>
    intro p l h hp hh
    unfold rvF
    split
    · exact ih (swF_PB hp (by omega) hh) (by omega)
    · exact hp
theorem nxU_PB {c cnt : Nat} {u p q : Nat → Nat} (hc : cnt ≤ c) (hu : PB c u) (h : nxU u p cnt = some q) : PB c q := by
  unfold nxU at h
  rcases hr : riseF p (cnt - 1) with _ | a
  · rw [hr] at h; cases h
  · rw [hr] at h
    have ha := riseF_lt hr
    have hg := grF_le (p := p) (a := a) (cnt - 1)
    cases h
    exact rvF_PB _ (swF_PB hu (by omega) (by omega)) (by omega)
theorem swF_comp (P p : Nat → Nat) (a b : Nat) : swF (fun j => P (p j)) a b = fun j => P (swF p a b j) := by
  funext j
  unfold swF
  split
  · rfl
  · split <;> rfl
theorem rvF_comp (P : Nat → Nat) : ∀ (f : Nat) (p : Nat → Nat) (l h : Nat), rvF f (fun j => P (p j)) l h = fun j => P (rvF f p l h j) := by
  intro f
  induction f with
  | zero => intro p l h; rfl
  | succ f ih =>
    intro p l h
    unfold rvF
    split
    · rw [swF_comp, ih]
    · rfl
theorem nxU_comp (P p : Nat → Nat) (cnt : Nat) : nxU (fun j => P (p j)) p cnt = (nxU p p cnt).map (fun q j => P (q j)) := by
  unfold nxU
  rcases riseF p (cnt - 1) with _ | a
  · rfl
  · dsimp only
    rw [swF_comp, rvF_comp]
    rfl
def mnN (x y : Int32) : Int32 := if y < x then y else x
/-- the least over the orders after p -/
def lbF (late : (Nat → Nat) → Int32) (cnt : Nat) : Nat → (Nat → Nat) → Int32 → (Nat → Nat) × Int32
  | 0, p, least => (p, least)
  | f + 1, p, least => match nxU p p cnt with
    | none => (p, least)
    | some q => lbF late cnt f q (mnN least (late q))
section C21
variable {n0 N z d : Nat} {S0 : Nat → Value} {G : sH} {m : mm}
theorem pJ_wpa {u : Nat → Nat} : pJ (wpa m 257 u) = fun i => ri m (u i) := by
  funext i
  unfold pJ
  rw [rp_wpa, if_pos rfl, ri_wpa]
/-- the lateness of an order of the jobs at P -/
def lateP (m : mm) (P : Nat → Nat) (w cnt : Nat) (p : Nat → Nat) : Int32 := (loF (fun i => ri m (P (p i))) (ri m (3 + (15 + 2 * w)) 0) (ri m (3 + (15 + 2 * w)) 1) (ri m (3 + (15 + 2 * w)) 2) cnt).2.2.2
theorem c_orders {P : Nat → Nat} {cnt w : Nat} (hw : w < 3) (h8 : ri m 256 8 = ic cnt) (hP : ∀ i, i < 6 → kd (P i) = 6) (h6 : cnt ≤ 6) (hM : ∀ i, i < cnt → ∀ j, j < cnt → (ri m (P i) 0 < ri m (P j) 0) = (i < j)) : ∀ (f : Nat) (p : Nat → Nat) (i : Nat) (least : Int32), i + f = 720 → PB cnt p → PB 6 p → ∀ N z, Rx (n0, S0) (d + 3) 25 29 [some (.ref (n0 + 256)), some (.ref (n0 + 1)), some (.int (ic w)), some (.int least), some (.int (ic i))] [] (hp n0 G (wpa m 257 (fun j => P (p j))), N, z) = oI n0 G (wpa m 257 (fun j => P ((lbF (lateP m P w cnt) cnt f p least).1 j))) N z (lbF (lateP m P w cnt) cnt f p least).2 := by
  have k1 : kd 1 = 1 := rfl
  have k3 : kd 3 = 3 := rfl
  have k256 : kd 256 = 10 := rfl
  obtain ⟨s5, s6⟩ := kd_W hw
  have hb : ∀ u : Nat → Nat, ri (wpa m 257 u) = ri m := fun u => rfl
  intro f
  induction f with
  | zero =>
    intro p i least hi h1 h2 N z
    obtain rfl : i = 720 := by omega
    rw [HPlanner_leastByOrders_29]
    simp (disch := first | assumption | (show (_ : Nat) < _; omega) | (show (_ : Nat) ≠ _; omega) | (show (_ : Nat) ≤ _; omega) | exact Or.inl rfl | exact Or.inr rfl) only [hG0, hG1, hG2, hF0, hF1, hA0, hA1, xL, xC, icL, Option.bind_some, Nat.le_add_right, Nat.le_refl, if_true, if_false, and_self, true_and, and_true, or_false, false_or, or_true, true_or, and_false, false_and, not_true_eq_false, not_false_eq_true, Nat.reduceAdd, Nat.reduceLeDiff, Nat.reduceLT, Option.toList_some, Option.toList_none, List.cons_append, List.nil_append, callK_ret, callR_ret, callK_thr, decide_true, Bool.true_and, xNr, bI0, bIT, bIF, ne_eq, Classical.not_not, not_false_eq_true, false_or, List.length_nil, icM, ic_lt, ic_eq, le_nl, ↓reduceIte, Nat.lt_irrefl, ri_ws, ri_wn, ri_as, ri_an, upd_s, upd_n, rp_wi, rp_wa, rl_wi, rl_wa, rl_wp, rl_wpa, rl_wl, rp_wl, ri_wl, rp_wd, ri_wd, in_rng, Int32.lt_irrefl, Nat.not_lt_zero, pk_nc, Nat.reduceEqDiff, Nat.succ_ne_self, Nat.one_ne_zero, Nat.add_left_cancel_iff, ri_wpa, ri_wp, QPlanner_leastByOrders_0, QPlanner_leastByOrders_1, lbF]
  | succ f ih =>
    intro p i least hi h1 h2 N z
    have hl : i < 720 := by omega
    have hg := c_goToNextOrder (n0 := n0) (S0 := S0) (G := G) (d := d + 1) (N := N) (z := z) (p := p) (u := fun j => P (p j)) h8 (fun i hi => hP _ (h2 i hi)) h6 (fun i hi j hj => hM _ (h1 i hi) _ (h1 j hj))
    rw [nxU_comp] at hg
    unfold lbF
    rw [HPlanner_leastByOrders_29]
    rcases hq : nxU p p cnt with _ | q
    · rw [hq] at hg
      replace hg : Mt (n0, S0) (d + 3) 27 [.ref (n0 + 256)] (hp n0 G (wpa m 257 (fun j => P (p j))), N, z) = oI n0 G (wpa m 257 (fun j => P (p j))) N z (ic 0) := hg
      simp (disch := first | assumption | (show (_ : Nat) < _; omega) | (show (_ : Nat) ≠ _; omega) | (show (_ : Nat) ≤ _; omega) | exact Or.inl rfl | exact Or.inr rfl) only [hG0, hG1, hG2, hF0, hF1, hA0, hA1, xL, xC, icL, Option.bind_some, Nat.le_add_right, Nat.le_refl, if_true, if_false, and_self, true_and, and_true, or_false, false_or, or_true, true_or, and_false, false_and, not_true_eq_false, not_false_eq_true, Nat.reduceAdd, Nat.reduceLeDiff, Nat.reduceLT, Option.toList_some, Option.toList_none, List.cons_append, List.nil_append, callK_ret, callR_ret, callK_thr, decide_true, Bool.true_and, xNr, bI0, bIT, bIF, ne_eq, Classical.not_not, not_false_eq_true, false_or, List.length_nil, icM, ic_lt, ic_eq, le_nl, ↓reduceIte, Nat.lt_irrefl, ri_ws, ri_wn, ri_as, ri_an, upd_s, upd_n, rp_wi, rp_wa, rl_wi, rl_wa, rl_wp, rl_wpa, rl_wl, rp_wl, ri_wl, rp_wd, ri_wd, in_rng, Int32.lt_irrefl, Nat.not_lt_zero, pk_nc, Nat.reduceEqDiff, Nat.succ_ne_self, Nat.one_ne_zero, Nat.add_left_cancel_iff, ri_wpa, ri_wp, QPlanner_leastByOrders_0, QPlanner_leastByOrders_1, hl, hg]
    · rw [hq] at hg
      replace hg : Mt (n0, S0) (d + 3) 27 [.ref (n0 + 256)] (hp n0 G (wpa m 257 (fun j => P (p j))), N, z) = oI n0 G (wpa m 257 (fun j => P (q j))) N z (ic 1) := hg
      have q1 := nxU_PB (Nat.le_refl _) h1 hq
      have q2 := nxU_PB h6 h2 hq
      have hlt := fun N z => c_latenessInOrder (n0 := n0) (S0 := S0) (G := G) (m := wpa m 257 (fun j => P (q j))) (d := d) (N := N) (z := z) (cnt := cnt) (k := 3 + (15 + 2 * w)) (fun i hi => hP _ (q2 i hi)) h8 h6 s5
      rw [pJ_wpa, hb] at hlt
      have hi2 := ih q (i + 1) (mnN least (lateP m P w cnt q)) (by omega) q1 q2 N z
      dsimp only
      generalize lbF (lateP m P w cnt) cnt f q (mnN least (lateP m P w cnt q)) = R at hi2 ⊢
      rw [← hi2]
      replace hlt : ∀ N z, Mt (n0, S0) (d + 3) 26 [.ref (n0 + 256), .ref (n0 + (3 + (15 + 2 * w)))] (hp n0 G (wpa m 257 (fun j => P (q j))), N, z) = oI n0 G (wpa m 257 (fun j => P (q j))) N z (lateP m P w cnt q) := hlt
      generalize lateP m P w cnt q = L at hlt
      clear hi2 ih hM
      simp (disch := first | assumption | (show (_ : Nat) < _; omega) | (show (_ : Nat) ≠ _; omega) | (show (_ : Nat) ≤ _; omega) | exact Or.inl rfl | exact Or.inr rfl) only [hG0, hG1, hG2, hF0, hF1, hA0, hA1, xL, xC, icL, Option.bind_some, Nat.le_add_right, Nat.le_refl, if_true, if_false, and_self, true_and, and_true, or_false, false_or, or_true, true_or, and_false, false_and, not_true_eq_false, not_false_eq_true, Nat.reduceAdd, Nat.reduceLeDiff, Nat.reduceLT, Option.toList_some, Option.toList_none, List.cons_append, List.nil_append, callK_ret, callR_ret, callK_thr, decide_true, Bool.true_and, xNr, bI0, bIT, bIF, ne_eq, Classical.not_not, not_false_eq_true, false_or, List.length_nil, icM, ic_lt, ic_eq, le_nl, ↓reduceIte, Nat.lt_irrefl, ri_ws, ri_wn, ri_as, ri_an, upd_s, upd_n, rp_wi, rp_wa, rl_wi, rl_wa, rl_wp, rl_wpa, rl_wl, rp_wl, ri_wl, rp_wd, ri_wd, in_rng, Int32.lt_irrefl, Nat.not_lt_zero, pk_nc, Nat.reduceEqDiff, Nat.succ_ne_self, Nat.one_ne_zero, Nat.add_left_cancel_iff, ri_wpa, ri_wp, QPlanner_leastByOrders_0, QPlanner_leastByOrders_1, hl, hg, hw, hlt, ic_add, mnN]
end C21
