/-! the reference's plans: collected, found; expanded by wip/whole/px.py out of wip/whole/m12.src -/
/-- the indices of the jobs of barrow w collected over U0 -/
def coU (r : Nat → Int32) (w : Nat) (U0 : Nat → Nat) : Nat → (Nat → Nat) × Nat
  | 0 => (U0, 0)
  | i + 1 => if rwJ r i 7 = ic (w + 1) then (updN (coU r w U0 i).1 (coU r w U0 i).2 i, (coU r w U0 i).2 + 1) else coU r w U0 i
theorem coU_le (r : Nat → Int32) (w : Nat) (U0 : Nat → Nat) : ∀ n i, i ≤ n → (coU r w U0 i).2 ≤ (coU r w U0 n).2 := by
  intro n
  induction n with
  | zero => intro i hi; rw [show i = 0 by omega]; exact Nat.le_refl _
  | succ n ih =>
    intro i hi
    by_cases h : i = n + 1
    · rw [h]; exact Nat.le_refl _
    · have := ih i (by omega)
      refine Nat.le_trans this ?_
      conv => rhs; unfold coU
      split
      · exact Nat.le_succ _
      · exact Nat.le_refl _
theorem coU_bd (r : Nat → Int32) (w : Nat) (U0 : Nat → Nat) : ∀ n q, q < (coU r w U0 n).2 → (coU r w U0 n).1 q < n := by
  intro n
  induction n with
  | zero => intro q hq; exact absurd hq (Nat.not_lt_zero q)
  | succ n ih =>
    intro q hq
    unfold coU at hq ⊢
    split at hq
    · rename_i h
      rw [if_pos h]
      show updN _ _ _ q < _
      unfold updN
      split
      · omega
      · have := ih q (by show q < _; have h9 : q < (coU r w U0 n).2 + 1 := hq; omega)
        omega
    · rename_i h
      rw [if_neg h]
      have := ih q hq
      omega
section M12
variable {n0 N z d : Nat} {S0 : Nat → Value} {G : sH} {m : mm}
theorem updU (U : Nat → Nat) (c k : Nat) : upd (fun i => ic (U i)) c (ic k) = fun i => ic (updN U c k i) := by
  funext j
  unfold upd updN
  split <;> rfl
theorem vM_10 {U : Nat → Nat} {a b : Int32} : wi (vM (wi m 292 10 a) U) 292 10 b = vM (wi m 292 10 b) U := by
  refine mm_ext (fun k => ?_) rfl rfl rfl
  unfold vM wi
  simp only [ri_wa]
  by_cases h2 : k = 297
  · subst h2; simp
  · by_cases h3 : k = 292
    · subst h3
      simp
      funext j
      unfold upd
      by_cases h4 : j = 10 <;> simp [h4]
    · simp [h2, h3]
/-- the best plan's search: the last order, the least, the best -/
def plR (m : mm) (w n : Nat) (U0 : Nat → Nat) : Option ((Nat → Nat) × Int32 × (Nat → Int32)) := mpF (mlate (ri m 293) w (coU (ri m 293) w U0 n).2) (coU (ri m 293) w U0 n).2 720 (coU (ri m 293) w U0 n).1 (mlate (ri m 293) w (coU (ri m 293) w U0 n).2 (coU (ri m 293) w U0 n).1) (cpf (coU (ri m 293) w U0 n).2 (fun i => ic ((coU (ri m 293) w U0 n).1 i)) (ri m 298))
theorem m_plans {w n : Nat} {U0 : Nat → Nat} (hw : w < 3) (hn : ri m 293 0 = ic n) (h12 : n ≤ 12) (hu : ri m 297 = fun i => ic (U0 i)) (h6 : (coU (ri m 293) w U0 n).2 ≤ 6) {R : (Nat → Nat) × Int32 × (Nat → Int32)} (hR : plR m w n U0 = some R) : Mt (n0, S0) (d + 4) 205 [.ref (n0 + 292), .int (ic w)] (hp n0 G m, N, z) = some (.inl none, (hp n0 G (rM m (coU (ri m 293) w U0 n).2 R.2.1 R.1 R.2.2), N, z)) := by
  have k292 : kd 292 = 18 := rfl
  have k293 : kd 293 = 19 := rfl
  have k297 : kd 297 = 5 := rfl
  have hm0 : wi m 292 10 (ic 0) = vM (wi m 292 10 (ic (coU (ri m 293) w U0 0).2)) (coU (ri m 293) w U0 0).1 := by
    show _ = wa (wi m 292 10 (ic 0)) 297 (fun i => ic (U0 i))
    rw [← hu, ← ri_wn m 10 (ic 0) (show (297 : Nat) ≠ 292 by decide), wa_self]
  rw [NModel_plans]
  simp (disch := first | assumption | (show (_ : Nat) < _; omega) | (show (_ : Nat) ≠ _; omega) | (show (_ : Nat) ≤ _; omega) | exact Or.inl rfl | exact Or.inr rfl) only [hG0, hG1, hG2, hF0, hF1, hA0, hA1, xL, xC, icL, Option.bind_some, Nat.le_add_right, Nat.le_refl, if_true, if_false, and_self, true_and, and_true, or_false, false_or, or_true, true_or, and_false, false_and, not_true_eq_false, not_false_eq_true, Nat.reduceAdd, Nat.reduceLeDiff, Nat.reduceLT, Option.toList_some, Option.toList_none, List.cons_append, List.nil_append, callK_ret, callR_ret, callK_thr, decide_true, Bool.true_and, xNr, bI0, bIT, bIF, ne_eq, Classical.not_not, not_false_eq_true, false_or, List.length_nil, icM, ic_lt, ic_eq, le_nl, ↓reduceIte, Nat.lt_irrefl, ri_ws, ri_wn, ri_as, ri_an, upd_s, upd_n, rp_wi, rp_wa, rl_wi, rl_wa, rl_wp, rl_wpa, rl_wl, rp_wl, ri_wl, rp_wd, ri_wd, in_rng, Int32.lt_irrefl, Nat.not_lt_zero, pk_nc, Nat.reduceEqDiff, Nat.succ_ne_self, Nat.one_ne_zero, Nat.add_left_cancel_iff, ri_wpa, ri_wp, QModel_plans_0, QModel_plans_1, QModel_plans_2]
  have step : ∀ i, i < n → Rx (n0, S0) (d + 3) 205 7 [some (.ref (n0 + 292)), some (.int (ic w)), some (.int (ic i))] [] (hp n0 G (vM (wi m 292 10 (ic (coU (ri m 293) w U0 i).2)) (coU (ri m 293) w U0 i).1), N, z) = Rx (n0, S0) (d + 3) 205 7 [some (.ref (n0 + 292)), some (.int (ic w)), some (.int (ic (i + 1)))] [] (hp n0 G (vM (wi m 292 10 (ic (coU (ri m 293) w U0 (i + 1)).2)) (coU (ri m 293) w U0 (i + 1)).1), N, z) := by
    intro i hi
    have hle := coU_le (ri m 293) w U0 n (i + 1) (by omega)
    have hS : coU (ri m 293) w U0 (i + 1) = if rwJ (ri m 293) i 7 = ic (w + 1) then (updN (coU (ri m 293) w U0 i).1 (coU (ri m 293) w U0 i).2 i, (coU (ri m 293) w U0 i).2 + 1) else coU (ri m 293) w U0 i := rfl
    have e3 : ∀ (v : Int32) U, ri (vM (wi m 292 10 v) U) 293 = ri m 293 := fun v U => by unfold vM; rw [ri_an _ _ (by decide), ri_wn _ _ _ (by decide)]
    have e4 : ∀ (v : Int32) U, ri (vM (wi m 292 10 v) U) 292 10 = v := fun v U => by unfold vM; rw [ri_an _ _ (by decide), ri_ws, upd_s]
    have e5 : ∀ (v : Int32) U c k, wi (vM (wi m 292 10 v) U) 297 c (ic k) = vM (wi m 292 10 v) (updN U c k) := fun v U c k => by unfold vM; rw [wi_wa, updU]
    rw [hS] at hle ⊢
    generalize coU (ri m 293) w U0 i = t at hle ⊢
    obtain ⟨U, c⟩ := t
    have j7 := m_j (n0 := n0) (S0 := S0) (G := G) (d := d + 2) (N := N) (z := z) (m := vM (wi m 292 10 (ic c)) U) (a := i) (o := 7) (by omega)
    rw [e3] at j7
    have e6 := e3 (ic c) U
    have e7 := e4 (ic c) U
    have e8 : ∀ V, ri (vM (wi m 292 10 (ic c)) V) 292 10 = ic c := fun V => e4 _ _
    unfold rwJ at hle ⊢
    rw [HModel_plans_7]
    by_cases h : ri m 293 (42 + 8 * i + 7) = ic (w + 1)
    · rw [if_pos h] at hle ⊢
      have hle2 : c + 1 ≤ (coU (ri m 293) w U0 n).2 := hle
      have hc6 : c < 6 := by omega
      have e9 := e5 (ic c) U c i
      have e10 : ∀ V b, wi (vM (wi m 292 10 (ic c)) V) 292 10 b = vM (wi m 292 10 b) V := fun V b => vM_10
      dsimp only
      generalize hv : vM (wi m 292 10 (ic c)) U = M1 at *
      generalize hv2 : vM (wi m 292 10 (ic c)) (updN U c i) = M2 at *
      have e11 : ri M2 292 10 = ic c := by rw [← hv2]; exact e8 _
      have e12 : wi M2 292 10 (ic (c + 1)) = vM (wi m 292 10 (ic (c + 1))) (updN U c i) := by rw [← hv2]; exact e10 _ _
      simp (disch := first | assumption | (show (_ : Nat) < _; omega) | (show (_ : Nat) ≠ _; omega) | (show (_ : Nat) ≤ _; omega) | exact Or.inl rfl | exact Or.inr rfl) only [hG0, hG1, hG2, hF0, hF1, hA0, hA1, xL, xC, icL, Option.bind_some, Nat.le_add_right, Nat.le_refl, if_true, if_false, and_self, true_and, and_true, or_false, false_or, or_true, true_or, and_false, false_and, not_true_eq_false, not_false_eq_true, Nat.reduceAdd, Nat.reduceLeDiff, Nat.reduceLT, Option.toList_some, Option.toList_none, List.cons_append, List.nil_append, callK_ret, callR_ret, callK_thr, decide_true, Bool.true_and, xNr, bI0, bIT, bIF, ne_eq, Classical.not_not, not_false_eq_true, false_or, List.length_nil, icM, ic_lt, ic_eq, le_nl, ↓reduceIte, Nat.lt_irrefl, ri_ws, ri_wn, ri_as, ri_an, upd_s, upd_n, rp_wi, rp_wa, rl_wi, rl_wa, rl_wp, rl_wpa, rl_wl, rp_wl, ri_wl, rp_wd, ri_wd, in_rng, Int32.lt_irrefl, Nat.not_lt_zero, pk_nc, Nat.reduceEqDiff, Nat.succ_ne_self, Nat.one_ne_zero, Nat.add_left_cancel_iff, ri_wpa, ri_wp, QModel_plans_0, QModel_plans_1, QModel_plans_2, e6, hn, hi, j7, ic_add, h, e7, e9, e11, e12]
    · rw [if_neg h]
      dsimp only
      generalize hv : vM (wi m 292 10 (ic c)) U = M1 at *
      simp (disch := first | assumption | (show (_ : Nat) < _; omega) | (show (_ : Nat) ≠ _; omega) | (show (_ : Nat) ≤ _; omega) | exact Or.inl rfl | exact Or.inr rfl) only [hG0, hG1, hG2, hF0, hF1, hA0, hA1, xL, xC, icL, Option.bind_some, Nat.le_add_right, Nat.le_refl, if_true, if_false, and_self, true_and, and_true, or_false, false_or, or_true, true_or, and_false, false_and, not_true_eq_false, not_false_eq_true, Nat.reduceAdd, Nat.reduceLeDiff, Nat.reduceLT, Option.toList_some, Option.toList_none, List.cons_append, List.nil_append, callK_ret, callR_ret, callK_thr, decide_true, Bool.true_and, xNr, bI0, bIT, bIF, ne_eq, Classical.not_not, not_false_eq_true, false_or, List.length_nil, icM, ic_lt, ic_eq, le_nl, ↓reduceIte, Nat.lt_irrefl, ri_ws, ri_wn, ri_as, ri_an, upd_s, upd_n, rp_wi, rp_wa, rl_wi, rl_wa, rl_wp, rl_wpa, rl_wl, rp_wl, ri_wl, rp_wd, ri_wd, in_rng, Int32.lt_irrefl, Nat.not_lt_zero, pk_nc, Nat.reduceEqDiff, Nat.succ_ne_self, Nat.one_ne_zero, Nat.add_left_cancel_iff, ri_wpa, ri_wp, QModel_plans_0, QModel_plans_1, QModel_plans_2, e6, hn, hi, j7, ic_add, h]
  rw [hm0]
  refine (iter (fun i => Rx (n0, S0) (d + 3) 205 7 [some (.ref (n0 + 292)), some (.int (ic w)), some (.int (ic i))] [] (hp n0 G (vM (wi m 292 10 (ic (coU (ri m 293) w U0 i).2)) (coU (ri m 293) w U0 i).1), N, z)) n step).trans ?_
  have hU : ∀ q, q < (coU (ri m 293) w U0 n).2 → (coU (ri m 293) w U0 n).1 q < 12 := fun q hq => by have := coU_bd (ri m 293) w U0 n q hq; omega
  unfold plR at hR
  try dsimp only
  generalize coU (ri m 293) w U0 n = t at *
  obtain ⟨U, c⟩ := t
  dsimp only at *
  rw [rM_start]
  have g0 : ri (rM m c (ri m 292 11) U (ri m 298)) 293 0 = ic n := by rw [rM_o (by decide) (by decide) (by decide)]; exact hn
  have hl := m_lateness (n0 := n0) (S0 := S0) (G := G) (m := rM m c (ri m 292 11) U (ri m 298)) (d := d + 1) (N := N) (z := z) (u := U) hw rM_10 h6 hU
  rw [rM_v, rM_o (by decide) (by decide) (by decide)] at hl
  have hk := m_keeps (n0 := n0) (S0 := S0) (G := G) (m := rM m c (ri m 292 11) U (ri m 298)) (d := d + 2) (N := N) (z := z) (u := U) (late := mlate (ri m 293) w c U) rM_10 h6 (by unfold rM; rw [ri_as])
  rw [rM_298, rM_keep] at hk
  have hs := m_search (n0 := n0) (S0 := S0) (G := G) (m := m) (d := d) hw h6 720 U _ _ R hU hR
  generalize mlate (ri m 293) w c U = la at *
  rw [HModel_plans_7]
  simp (disch := first | assumption | (show (_ : Nat) < _; omega) | (show (_ : Nat) ≠ _; omega) | (show (_ : Nat) ≤ _; omega) | exact Or.inl rfl | exact Or.inr rfl) only [hG0, hG1, hG2, hF0, hF1, hA0, hA1, xL, xC, icL, Option.bind_some, Nat.le_add_right, Nat.le_refl, if_true, if_false, and_self, true_and, and_true, or_false, false_or, or_true, true_or, and_false, false_and, not_true_eq_false, not_false_eq_true, Nat.reduceAdd, Nat.reduceLeDiff, Nat.reduceLT, Option.toList_some, Option.toList_none, List.cons_append, List.nil_append, callK_ret, callR_ret, callK_thr, decide_true, Bool.true_and, xNr, bI0, bIT, bIF, ne_eq, Classical.not_not, not_false_eq_true, false_or, List.length_nil, icM, ic_lt, ic_eq, le_nl, ↓reduceIte, Nat.lt_irrefl, ri_ws, ri_wn, ri_as, ri_an, upd_s, upd_n, rp_wi, rp_wa, rl_wi, rl_wa, rl_wp, rl_wpa, rl_wl, rp_wl, ri_wl, rp_wd, ri_wd, in_rng, Int32.lt_irrefl, Nat.not_lt_zero, pk_nc, Nat.reduceEqDiff, Nat.succ_ne_self, Nat.one_ne_zero, Nat.add_left_cancel_iff, ri_wpa, ri_wp, QModel_plans_0, QModel_plans_1, QModel_plans_2, g0, hl, hk]
  exact hs _ _ _
end M12
