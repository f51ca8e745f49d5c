/-! the class: writePlan; expanded by wip/whole/px.py out of wip/whole/c33.src -/
/-- a plan written: its first i jobs -/
def plF (O F : Nat → Nat) (s : tx) : Nat → tx
  | 0 => s
  | i + 1 => wI (wC (wI (if 0 < i then wC (plF O F s i) 62 else plF O F s i) (O i)) 58) (F i)
theorem plF_le (O F : Nat → Nat) (s : tx) : ∀ t, (plF O F s t).1 ≤ s.1 + 12 * t := by
  intro t
  induction t with
  | zero => exact Nat.le_refl _
  | succ t ih =>
    have := dgn_b (O t)
    have := dgn_b (F t)
    unfold plF
    split
    · show (plF O F s t).1 + 1 + dgn (O t) + 1 + dgn (F t) ≤ _
      omega
    · show (plF O F s t).1 + dgn (O t) + 1 + dgn (F t) ≤ _
      omega
section C33
variable {n0 N z d : Nat} {S0 : Nat → Value} {G : sH} {m : mm}
variable {k : Nat} {G1 : sH} {m1 : mm} {N1 z1 k1 : Nat} {s : tx}
theorem SB_m {c : Nat} {f : Nat → Nat} (e1 : ri m1 290 = ri m 290) (e2 : rp m1 290 = rp m 290) (hb : SB n0 G m N k c f) : SB n0 G m1 N k c f := by
  unfold SB
  rw [e1, e2]
  exact hb
theorem wp_loop (h : ST n0 G m N z k G1 m1 N1 z1 k1 s) (h0 : S0 0 = .int (ic 1)) (hD : isDig n0 S0 G) (hs : s.1 = 0) {cnt : Nat} (h8 : ri m 256 8 = ic cnt) (h6 : cnt ≤ 6) {O F : Nat → Nat} (hO : ∀ i, i < cnt → ri m 261 i = ic (O i) ∧ O i < 100000) (hF : ∀ i, i < cnt → ri m 262 i = ic (F i) ∧ F i < 100000) {l1 : Int32} : ∀ t, t ≤ cnt → ∃ G2 m2 N2 z2 k2, Rx (n0, S0) (d + 7) 117 29 [some (.ref n0), some (.int l1), some (.int (ic 0))] [] (hp n0 G1 m1, N1, z1) = Rx (n0, S0) (d + 7) 117 29 [some (.ref n0), some (.int l1), some (.int (ic t))] [] (hp n0 G2 m2, N2, z2) ∧ ST n0 G m N z k G2 m2 N2 z2 k2 (plF O F s t) := by
  have k256 : kd 256 = 10 := rfl
  have k261 : kd 261 = 5 := rfl
  have k262 : kd 262 = 5 := rfl
  have k290 : kd 290 = 17 := rfl
  intro t
  induction t with
  | zero => intro _; exact ⟨G1, m1, N1, z1, k1, rfl, h⟩
  | succ t ih =>
    intro ht
    obtain ⟨G2, m2, N2, z2, k2, e1, h2⟩ := ih (by omega)
    have hle := plF_le O F s t
    have ht6 : t < cnt := by omega
    obtain ⟨o1, o2⟩ := hO t ht6
    obtain ⟨f1, f2⟩ := hF t ht6
    have do1 := dgn_b (O t)
    have df1 := dgn_b (F t)
    have g8 : ri m2 256 8 = ic cnt := by rw [st_ri h2 256 (by decide)]; exact h8
    have main : ∀ (G3 : sH) (m3 : mm) (N3 z3 k3 : Nat) (s3 : tx), ST n0 G m N z k G3 m3 N3 z3 k3 s3 → s3.1 ≤ s.1 + 12 * t + 1 → ∃ G2 m2 N2 z2 k2, Rx (n0, S0) (d + 7) 117 54 [some (.ref n0), some (.int l1), some (.int (ic t))] [] (hp n0 G3 m3, N3, z3) = Rx (n0, S0) (d + 7) 117 29 [some (.ref n0), some (.int l1), some (.int (ic (t + 1)))] [] (hp n0 G2 m2, N2, z2) ∧ ST n0 G m N z k G2 m2 N2 z2 k2 (wI (wC (wI s3 (O t)) 58) (F t)) := by
      intro G3 m3 N3 z3 k3 s3 h3 hl3
      obtain ⟨G4, m4, N4, z4, k4, e4, h4⟩ := st_int (S0 := S0) (d := d + 2) h3 h0 hD (n := O t) o2 (by omega)
      have hl4 : (wI s3 (O t)).1 = s3.1 + dgn (O t) := rfl
      obtain ⟨G5, m5, N5, z5, k5, e5, h5⟩ := st_char (S0 := S0) (d := d + 2) h4 h0 (x := 58) (by omega) (by omega)
      have hl5 : (wC (wI s3 (O t)) 58).1 = s3.1 + dgn (O t) + 1 := rfl
      obtain ⟨G6, m6, N6, z6, k6, e6, h6'⟩ := st_int (S0 := S0) (d := d + 2) h5 h0 hD (n := F t) f2 (by omega)
      refine ⟨G6, m6, N6, z6, k6, ?_, h6'⟩
      have r3 := st_ri h3 261 (by decide)
      have r5 := st_ri h5 262 (by decide)
      simp (disch := first | assumption | (show (_ : Nat) < _; omega) | (show (_ : Nat) ≠ _; omega) | (show (_ : Nat) ≤ _; omega) | exact Or.inl rfl | exact Or.inr rfl) only [hG0, hG1, hG2, hF0, hF1, hA0, hA1, xL, xC, icL, Option.bind_some, Nat.le_add_right, Nat.le_refl, if_true, if_false, and_self, true_and, and_true, or_false, false_or, or_true, true_or, and_false, false_and, not_true_eq_false, not_false_eq_true, Nat.reduceAdd, Nat.reduceLeDiff, Nat.reduceLT, Option.toList_some, Option.toList_none, List.cons_append, List.nil_append, callK_ret, callR_ret, callK_thr, decide_true, Bool.true_and, xNr, bI0, bIT, bIF, ne_eq, Classical.not_not, not_false_eq_true, false_or, List.length_nil, icM, ic_lt, ic_eq, le_nl, ↓reduceIte, Nat.lt_irrefl, ri_ws, ri_wn, ri_as, ri_an, upd_s, upd_n, rp_wi, rp_wa, rl_wi, rl_wa, rl_wp, rl_wpa, rl_wl, rp_wl, ri_wl, rp_wd, ri_wd, in_rng, Int32.lt_irrefl, Nat.not_lt_zero, pk_nc, Nat.reduceEqDiff, Nat.succ_ne_self, Nat.one_ne_zero, Nat.add_left_cancel_iff, ri_wpa, ri_wp, QMain_writePlan_0, QMain_writePlan_1, QMain_writePlan_2, ht6, r3, o1, e4, e5, r5, f1, e6, ic_add]
    by_cases hp : 0 < t
    · obtain ⟨G3, m3, N3, z3, k3, e3, h3⟩ := st_char (S0 := S0) (d := d + 2) h2 h0 (x := 62) (by omega) (by omega)
      have hl3 : (wC (plF O F s t) 62).1 = (plF O F s t).1 + 1 := rfl
      obtain ⟨G4, m4, N4, z4, k4, e4, h4⟩ := main G3 m3 N3 z3 k3 _ h3 (by omega)
      refine ⟨G4, m4, N4, z4, k4, e1.trans (Eq.trans ?_ e4), ?_⟩
      · rw [HMain_writePlan_29]
        simp (disch := first | assumption | (show (_ : Nat) < _; omega) | (show (_ : Nat) ≠ _; omega) | (show (_ : Nat) ≤ _; omega) | exact Or.inl rfl | exact Or.inr rfl) only [hG0, hG1, hG2, hF0, hF1, hA0, hA1, xL, xC, icL, Option.bind_some, Nat.le_add_right, Nat.le_refl, if_true, if_false, and_self, true_and, and_true, or_false, false_or, or_true, true_or, and_false, false_and, not_true_eq_false, not_false_eq_true, Nat.reduceAdd, Nat.reduceLeDiff, Nat.reduceLT, Option.toList_some, Option.toList_none, List.cons_append, List.nil_append, callK_ret, callR_ret, callK_thr, decide_true, Bool.true_and, xNr, bI0, bIT, bIF, ne_eq, Classical.not_not, not_false_eq_true, false_or, List.length_nil, icM, ic_lt, ic_eq, le_nl, ↓reduceIte, Nat.lt_irrefl, ri_ws, ri_wn, ri_as, ri_an, upd_s, upd_n, rp_wi, rp_wa, rl_wi, rl_wa, rl_wp, rl_wpa, rl_wl, rp_wl, ri_wl, rp_wd, ri_wd, in_rng, Int32.lt_irrefl, Nat.not_lt_zero, pk_nc, Nat.reduceEqDiff, Nat.succ_ne_self, Nat.one_ne_zero, Nat.add_left_cancel_iff, ri_wpa, ri_wp, QMain_writePlan_0, QMain_writePlan_1, QMain_writePlan_2, g8, ht6, hp, e3]
      · unfold plF
        rw [if_pos hp]
        exact h4
    · obtain ⟨G4, m4, N4, z4, k4, e4, h4⟩ := main G2 m2 N2 z2 k2 _ h2 (by omega)
      refine ⟨G4, m4, N4, z4, k4, e1.trans (Eq.trans ?_ e4), ?_⟩
      · rw [HMain_writePlan_29]
        simp (disch := first | assumption | (show (_ : Nat) < _; omega) | (show (_ : Nat) ≠ _; omega) | (show (_ : Nat) ≤ _; omega) | exact Or.inl rfl | exact Or.inr rfl) only [hG0, hG1, hG2, hF0, hF1, hA0, hA1, xL, xC, icL, Option.bind_some, Nat.le_add_right, Nat.le_refl, if_true, if_false, and_self, true_and, and_true, or_false, false_or, or_true, true_or, and_false, false_and, not_true_eq_false, not_false_eq_true, Nat.reduceAdd, Nat.reduceLeDiff, Nat.reduceLT, Option.toList_some, Option.toList_none, List.cons_append, List.nil_append, callK_ret, callR_ret, callK_thr, decide_true, Bool.true_and, xNr, bI0, bIT, bIF, ne_eq, Classical.not_not, not_false_eq_true, false_or, List.length_nil, icM, ic_lt, ic_eq, le_nl, ↓reduceIte, Nat.lt_irrefl, ri_ws, ri_wn, ri_as, ri_an, upd_s, upd_n, rp_wi, rp_wa, rl_wi, rl_wa, rl_wp, rl_wpa, rl_wl, rp_wl, ri_wl, rp_wd, ri_wd, in_rng, Int32.lt_irrefl, Nat.not_lt_zero, pk_nc, Nat.reduceEqDiff, Nat.succ_ne_self, Nat.one_ne_zero, Nat.add_left_cancel_iff, ri_wpa, ri_wp, QMain_writePlan_0, QMain_writePlan_1, QMain_writePlan_2, g8, ht6, hp]
      · unfold plF
        rw [if_neg hp]
        exact h4
theorem c_writePlan {c n : Nat} {f : Nat → Nat} (hb : SB n0 G m N k c f) (h0 : S0 0 = .int (ic 1)) (hD : isDig n0 S0 G) (hJ : JV m 1) (hP : JP m) (hn : ri m 1 1 = ic n) (h12 : n ≤ 12) {w : Nat} (hw : w < 3) {O F : Nat → Nat} (hO : ∀ i, i < cN m w n → ri (lrM m w n) 261 i = ic (O i) ∧ O i < 100000) (hF : ∀ i, i < cN m w n → ri (lrM m w n) 262 i = ic (F i) ∧ F i < 100000) : ∃ G1 m1 N1 z1 k1, Mt (n0, S0) (d + 17) 117 [.ref n0, .int (ic w)] (hp n0 G m, N, z) = oI n0 G1 m1 N1 z1 (ic (plF O F (0, f) (cN m w n)).1) ∧ ST n0 G (lrM m w n) N z k G1 m1 N1 z1 k1 (plF O F (0, f) (cN m w n)) := by
  have k256 : kd 256 = 10 := rfl
  have k290 : kd 290 = 17 := rfl
  have hlr := c_leastByRecursion (n0 := n0) (S0 := S0) (G := G) (d := d) (N := N) (z := z) hJ hP hn h12 hw
  have h8 := lr_8 hP (w := w) (n := n)
  have h6 : cN m w n ≤ 6 := (coM_6 (m := m) (w := ic w) n).1
  have hb1 : SB n0 G (lrM m w n) N k c f := SB_m (lrM_o hP (by omega)) (congrFun lrM_p.1 290) hb
  obtain ⟨m1, a1, h1⟩ := st_start (S0 := S0) (z := z) (d := d + 13) (f2 := f) hb1
  obtain ⟨G2, m2, N2, z2, k2, a2, h2⟩ := wp_loop (d := d + 9) h1 h0 hD rfl h8 h6 hO hF (l1 := ic w) (cN m w n) (Nat.le_refl _)
  have g8 : ri m2 256 8 = ic (cN m w n) := by rw [st_ri h2 256 (by decide)]; exact h8
  have hlen := st_len (S0 := S0) (d := d + 14) h2
  have hck := c_checkedBarrow (n0 := n0) (S0 := S0) (G := G) (m := m) (N := N) (z := z) (d := d + 14) (w := ic w)
  refine ⟨G2, m2, N2, z2, k2, ?_, h2⟩
  generalize (plF O F (0, f) (cN m w n)).1 = LL at hlen ⊢
  generalize cN m w n = cc at *
  generalize lrM m w n = ml at *
  rw [NMain_writePlan]
  simp (disch := first | assumption | (show (_ : Nat) < _; omega) | (show (_ : Nat) ≠ _; omega) | (show (_ : Nat) ≤ _; omega) | exact Or.inl rfl | exact Or.inr rfl) only [hG0, hG1, hG2, hF0, hF1, hA0, hA1, xL, xC, icL, Option.bind_some, Nat.le_add_right, Nat.le_refl, if_true, if_false, and_self, true_and, and_true, or_false, false_or, or_true, true_or, and_false, false_and, not_true_eq_false, not_false_eq_true, Nat.reduceAdd, Nat.reduceLeDiff, Nat.reduceLT, Option.toList_some, Option.toList_none, List.cons_append, List.nil_append, callK_ret, callR_ret, callK_thr, decide_true, Bool.true_and, xNr, bI0, bIT, bIF, ne_eq, Classical.not_not, not_false_eq_true, false_or, List.length_nil, icM, ic_lt, ic_eq, le_nl, ↓reduceIte, Nat.lt_irrefl, ri_ws, ri_wn, ri_as, ri_an, upd_s, upd_n, rp_wi, rp_wa, rl_wi, rl_wa, rl_wp, rl_wpa, rl_wl, rp_wl, ri_wl, rp_wd, ri_wd, in_rng, Int32.lt_irrefl, Nat.not_lt_zero, pk_nc, Nat.reduceEqDiff, Nat.succ_ne_self, Nat.one_ne_zero, Nat.add_left_cancel_iff, ri_wpa, ri_wp, QMain_writePlan_0, QMain_writePlan_1, QMain_writePlan_2, hck, hw, ic_nat, hlr, a1, a2]
  rw [HMain_writePlan_29]
  simp (disch := first | assumption | (show (_ : Nat) < _; omega) | (show (_ : Nat) ≠ _; omega) | (show (_ : Nat) ≤ _; omega) | exact Or.inl rfl | exact Or.inr rfl) only [hG0, hG1, hG2, hF0, hF1, hA0, hA1, xL, xC, icL, Option.bind_some, Nat.le_add_right, Nat.le_refl, if_true, if_false, and_self, true_and, and_true, or_false, false_or, or_true, true_or, and_false, false_and, not_true_eq_false, not_false_eq_true, Nat.reduceAdd, Nat.reduceLeDiff, Nat.reduceLT, Option.toList_some, Option.toList_none, List.cons_append, List.nil_append, callK_ret, callR_ret, callK_thr, decide_true, Bool.true_and, xNr, bI0, bIT, bIF, ne_eq, Classical.not_not, not_false_eq_true, false_or, List.length_nil, icM, ic_lt, ic_eq, le_nl, ↓reduceIte, Nat.lt_irrefl, ri_ws, ri_wn, ri_as, ri_an, upd_s, upd_n, rp_wi, rp_wa, rl_wi, rl_wa, rl_wp, rl_wpa, rl_wl, rp_wl, ri_wl, rp_wd, ri_wd, in_rng, Int32.lt_irrefl, Nat.not_lt_zero, pk_nc, Nat.reduceEqDiff, Nat.succ_ne_self, Nat.one_ne_zero, Nat.add_left_cancel_iff, ri_wpa, ri_wp, QMain_writePlan_0, QMain_writePlan_1, QMain_writePlan_2, g8, hlen]
end C33
