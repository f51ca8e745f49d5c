/-! the reference's plans: the search; expanded by wip/whole/px.py out of wip/whole/m11.src -/
theorem mm_ext {a b : mm} (h1 : ∀ k, ri a k = ri b k) (h2 : rp a = rp b) (h3 : rl a = rl b) (h4 : rd a = rd b) : a = b := by
  obtain ⟨a1, a2, a3, a4⟩ := a
  obtain ⟨b1, b2, b3, b4⟩ := b
  have e1 : a1 = b1 := funext h1
  have e2 : a2 = b2 := h2
  have e3 : a3 = b3 := h3
  have e4 : a4 = b4 := h4
  rw [e1, e2, e3, e4]
/-- the reference while it plans: how many, the least, the order, the best -/
def rM (m : mm) (c : Nat) (L : Int32) (U : Nat → Nat) (B : Nat → Int32) : mm := wa (wa (wi (wi m 292 10 (ic c)) 292 11 L) 298 B) 297 (fun i => ic (U i))
section M11
variable {n0 N z d : Nat} {S0 : Nat → Value} {G : sH} {m : mm}
theorem rM_10 {c : Nat} {L : Int32} {U : Nat → Nat} {B : Nat → Int32} : ri (rM m c L U B) 292 10 = ic c := by
  unfold rM
  rw [ri_an _ _ (by decide), ri_an _ _ (by decide), ri_ws, upd_n _ _ (by decide), ri_ws, upd_s]
theorem rM_11 {c : Nat} {L : Int32} {U : Nat → Nat} {B : Nat → Int32} : ri (rM m c L U B) 292 11 = L := by
  unfold rM
  rw [ri_an _ _ (by decide), ri_an _ _ (by decide), ri_ws, upd_s]
theorem rM_o {c : Nat} {L : Int32} {U : Nat → Nat} {B : Nat → Int32} {k : Nat} (h1 : k ≠ 292) (h2 : k ≠ 297) (h3 : k ≠ 298) : ri (rM m c L U B) k = ri m k := by
  unfold rM
  rw [ri_an _ _ h2, ri_an _ _ h3, ri_wn _ _ _ h1, ri_wn _ _ _ h1]
theorem rM_298 {c : Nat} {L : Int32} {U : Nat → Nat} {B : Nat → Int32} : ri (rM m c L U B) 298 = B := by
  unfold rM
  rw [ri_an _ _ (by decide), ri_as]
theorem rM_keep {c : Nat} {L L2 : Int32} {U : Nat → Nat} {B B2 : Nat → Int32} : wa (wi (rM m c L U B) 292 11 L2) 298 B2 = rM m c L2 U B2 := by
  refine mm_ext (fun k => ?_) rfl rfl rfl
  unfold rM wi
  simp only [ri_wa]
  by_cases h1 : k = 298
  · subst h1; simp
  · by_cases h2 : k = 297
    · subst h2; simp
    · by_cases h3 : k = 292
      · subst h3
        simp
        funext j
        unfold upd
        by_cases h4 : j = 11 <;> simp [h4]
      · simp [h1, h2, h3]
theorem rM_start {c : Nat} {U : Nat → Nat} : vM (wi m 292 10 (ic c)) U = rM m c (ri m 292 11) U (ri m 298) := by
  refine mm_ext (fun k => ?_) rfl rfl rfl
  unfold rM vM wi
  simp only [ri_wa]
  by_cases h1 : k = 298
  · subst h1; simp
  · by_cases h2 : k = 297
    · subst h2; simp
    · by_cases h3 : k = 292
      · subst h3
        simp
        funext j
        unfold upd
        by_cases h4 : j = 11 <;> simp [h4]
      · simp [h1, h2, h3]
theorem rM_u {c : Nat} {L : Int32} {U V : Nat → Nat} {B : Nat → Int32} : vM (rM m c L U B) V = rM m c L V B := by unfold rM vM; rw [wa_wa]
theorem rM_v {c : Nat} {L : Int32} {U : Nat → Nat} {B : Nat → Int32} : vM (rM m c L U B) U = rM m c L U B := rM_u
theorem nxU_bd {u p v : Nat → Nat} {cnt b : Nat} (hu : ∀ i, i < cnt → u i < b) (h : nxU u p cnt = some v) : ∀ i, i < cnt → v i < b := by
  have hsw : ∀ (u : Nat → Nat) x y, x < cnt → y < cnt → (∀ i, i < cnt → u i < b) → ∀ i, i < cnt → swF u x y i < b := by
    intro u x y hx hy hu i hi
    unfold swF
    split
    · exact hu x hx
    · split
      · exact hu y hy
      · exact hu i hi
  have hrv : ∀ f (u : Nat → Nat) l r, r < cnt → (∀ i, i < cnt → u i < b) → ∀ i, i < cnt → rvF f u l r i < b := by
    intro f
    induction f with
    | zero => intro u l r _ hu; exact hu
    | succ f ih =>
      intro u l r hr hu
      unfold rvF
      split
      · exact ih _ _ _ (by omega) (hsw u _ _ (by omega) hr hu)
      · exact hu
  unfold nxU at h
  rcases hr : riseF p (cnt - 1) with _ | a
  · rw [hr] at h; cases h
  · rw [hr] at h
    have ha := riseF_lt hr
    have hg := grF_le (p := p) (a := a) (cnt - 1)
    cases h
    exact hrv _ _ _ _ (by omega) (hsw u _ _ (by omega) (by omega) hu)
/-- the search over the orders after U: the last order, the least, the best -/
def mpF (late : (Nat → Nat) → Int32) (cnt : Nat) : Nat → (Nat → Nat) → Int32 → (Nat → Int32) → Option ((Nat → Nat) × Int32 × (Nat → Int32))
  | 0, _, _, _ => none
  | f + 1, U, L, B => match nxU U U cnt with
    | none => some (U, L, B)
    | some V => if late V < L then mpF late cnt f V (late V) (cpf cnt (fun i => ic (V i)) B) else mpF late cnt f V L B
theorem m_search {w cnt : Nat} (hw : w < 3) (h6 : cnt ≤ 6) : ∀ (f : Nat) (U : Nat → Nat) (L : Int32) (B : Nat → Int32) (R : (Nat → Nat) × Int32 × (Nat → Int32)), (∀ i, i < cnt → U i < 12) → mpF (mlate (ri m 293) w cnt) cnt f U L B = some R → ∀ l2 N z, Rx (n0, S0) (d + 3) 205 68 [some (.ref (n0 + 292)), some (.int (ic w)), l2] [] (hp n0 G (rM m cnt L U B), N, z) = some (.inl none, (hp n0 G (rM m cnt R.2.1 R.1 R.2.2), N, z)) := by
  have k292 : kd 292 = 18 := rfl
  intro f
  induction f with
  | zero => intro U L B R _ h; cases h
  | succ f ih =>
    intro U L B R hU h l2 N z
    have hn := m_hasNextOrder (n0 := n0) (S0 := S0) (G := G) (m := rM m cnt L U B) (d := d + 1) (N := N) (z := z) (u := U) rM_10 h6 (fun i hi => by have := hU i hi; omega)
    rw [rM_v] at hn
    unfold mpF at h
    rw [HModel_plans_68_1]
    rcases hq : nxU U U cnt with _ | V
    · rw [hq] at hn h
      replace hn : Mt (n0, S0) (d + 3) 208 [.ref (n0 + 292)] (hp n0 G (rM m cnt L U B), N, z) = oI n0 G (rM m cnt L U B) N z (ic 0) := hn
      cases h
      simp (disch := first | assumption | (show (_ : Nat) < _; omega) | (show (_ : Nat) ≠ _; omega) | (show (_ : Nat) ≤ _; omega) | exact Or.inl rfl | exact Or.inr rfl) only [hG0, hG1, hG2, hF0, hF1, hA0, hA1, xL, xC, icL, Option.bind_some, Nat.le_add_right, Nat.le_refl, if_true, if_false, and_self, true_and, and_true, or_false, false_or, or_true, true_or, and_false, false_and, not_true_eq_false, not_false_eq_true, Nat.reduceAdd, Nat.reduceLeDiff, Nat.reduceLT, Option.toList_some, Option.toList_none, List.cons_append, List.nil_append, callK_ret, callR_ret, callK_thr, decide_true, Bool.true_and, xNr, bI0, bIT, bIF, ne_eq, Classical.not_not, not_false_eq_true, false_or, List.length_nil, icM, ic_lt, ic_eq, le_nl, ↓reduceIte, Nat.lt_irrefl, ri_ws, ri_wn, ri_as, ri_an, upd_s, upd_n, rp_wi, rp_wa, rl_wi, rl_wa, rl_wp, rl_wpa, rl_wl, rp_wl, ri_wl, rp_wd, ri_wd, in_rng, Int32.lt_irrefl, Nat.not_lt_zero, pk_nc, Nat.reduceEqDiff, Nat.succ_ne_self, Nat.one_ne_zero, Nat.add_left_cancel_iff, ri_wpa, ri_wp, QModel_plans_0, QModel_plans_1, QModel_plans_2, hn]
    · rw [hq] at hn h
      replace hn : Mt (n0, S0) (d + 3) 208 [.ref (n0 + 292)] (hp n0 G (rM m cnt L U B), N, z) = oI n0 G (rM m cnt L V B) N z (ic 1) := by rw [hn]; dsimp only; rw [rM_u]
      have hV := nxU_bd hU hq
      have hl := m_lateness (n0 := n0) (S0 := S0) (G := G) (m := rM m cnt L V B) (d := d + 1) (N := N) (z := z) (u := V) hw rM_10 h6 hV
      rw [rM_v, rM_o (by decide) (by decide) (by decide)] at hl
      dsimp only at h
      by_cases hc : mlate (ri m 293) w cnt V < L
      · rw [if_pos hc] at h
        have hk := m_keeps (n0 := n0) (S0 := S0) (G := G) (m := rM m cnt L V B) (d := d + 2) (N := N) (z := z) (u := V) (late := mlate (ri m 293) w cnt V) rM_10 h6 (by unfold rM; rw [ri_as])
        rw [rM_298, rM_keep] at hk
        have hi := ih V _ _ R hV h
        have h11 : ri (rM m cnt L V B) 292 11 = L := rM_11
        generalize mlate (ri m 293) w cnt V = la at *
        simp (disch := first | assumption | (show (_ : Nat) < _; omega) | (show (_ : Nat) ≠ _; omega) | (show (_ : Nat) ≤ _; omega) | exact Or.inl rfl | exact Or.inr rfl) only [hG0, hG1, hG2, hF0, hF1, hA0, hA1, xL, xC, icL, Option.bind_some, Nat.le_add_right, Nat.le_refl, if_true, if_false, and_self, true_and, and_true, or_false, false_or, or_true, true_or, and_false, false_and, not_true_eq_false, not_false_eq_true, Nat.reduceAdd, Nat.reduceLeDiff, Nat.reduceLT, Option.toList_some, Option.toList_none, List.cons_append, List.nil_append, callK_ret, callR_ret, callK_thr, decide_true, Bool.true_and, xNr, bI0, bIT, bIF, ne_eq, Classical.not_not, not_false_eq_true, false_or, List.length_nil, icM, ic_lt, ic_eq, le_nl, ↓reduceIte, Nat.lt_irrefl, ri_ws, ri_wn, ri_as, ri_an, upd_s, upd_n, rp_wi, rp_wa, rl_wi, rl_wa, rl_wp, rl_wpa, rl_wl, rp_wl, ri_wl, rp_wd, ri_wd, in_rng, Int32.lt_irrefl, Nat.not_lt_zero, pk_nc, Nat.reduceEqDiff, Nat.succ_ne_self, Nat.one_ne_zero, Nat.add_left_cancel_iff, ri_wpa, ri_wp, QModel_plans_0, QModel_plans_1, QModel_plans_2, hn, hl, h11, hc, hk, hi]
      · rw [if_neg hc] at h
        have hi := ih V _ _ R hV h
        have h11 : ri (rM m cnt L V B) 292 11 = L := rM_11
        generalize mlate (ri m 293) w cnt V = la at *
        simp (disch := first | assumption | (show (_ : Nat) < _; omega) | (show (_ : Nat) ≠ _; omega) | (show (_ : Nat) ≤ _; omega) | exact Or.inl rfl | exact Or.inr rfl) only [hG0, hG1, hG2, hF0, hF1, hA0, hA1, xL, xC, icL, Option.bind_some, Nat.le_add_right, Nat.le_refl, if_true, if_false, and_self, true_and, and_true, or_false, false_or, or_true, true_or, and_false, false_and, not_true_eq_false, not_false_eq_true, Nat.reduceAdd, Nat.reduceLeDiff, Nat.reduceLT, Option.toList_some, Option.toList_none, List.cons_append, List.nil_append, callK_ret, callR_ret, callK_thr, decide_true, Bool.true_and, xNr, bI0, bIT, bIF, ne_eq, Classical.not_not, not_false_eq_true, false_or, List.length_nil, icM, ic_lt, ic_eq, le_nl, ↓reduceIte, Nat.lt_irrefl, ri_ws, ri_wn, ri_as, ri_an, upd_s, upd_n, rp_wi, rp_wa, rl_wi, rl_wa, rl_wp, rl_wpa, rl_wl, rp_wl, ri_wl, rp_wd, ri_wd, in_rng, Int32.lt_irrefl, Nat.not_lt_zero, pk_nc, Nat.reduceEqDiff, Nat.succ_ne_self, Nat.one_ne_zero, Nat.add_left_cancel_iff, ri_wpa, ri_wp, QModel_plans_0, QModel_plans_1, QModel_plans_2, hn, hl, h11, hc, hi]
end M11
