/-! the reference's writeBarrow, planned, charAt; expanded by wip/whole/px.py out of wip/whole/m16.src -/
section M16
variable {n0 N z d : Nat} {S0 : Nat → Value} {G : sH} {m : mm}
theorem m_writeBarrow {w : Nat} (hw : w < 3) {f : Nat → Nat} (hf : ri m 299 = fun i => ic (f i)) {x y t : Nat} (hx : ri m 293 (18 + 8 * w + 0) = ic x ∧ x < 100000) (hy : ri m 293 (18 + 8 * w + 1) = ic y ∧ y < 100000) (ht : ri m 293 (18 + 8 * w + 2) = ic t ∧ t < 100000) {P : Nat → Nat} (hP : ∀ i, i < 4 → ri m 293 (18 + 8 * w + (4 + i)) = ic (P i) ∧ P i < 100000) : Mt (n0, S0) (d + 5) 221 [.ref (n0 + 292), .int (ic w)] (hp n0 G m, N, z) = oI n0 G (oM (tM m 0) (kdF P (tlF (fun t => ri m 293 (12 + t) = ic (w + 1)) (hdF w x y t f) 6) 4)) N z (ic (kdF P (tlF (fun t => ri m 293 (12 + t) = ic (w + 1)) (hdF w x y t f) 6) 4).1) := by
  have k292 : kd 292 = 18 := rfl
  have k293 : kd 293 = 19 := rfl
  have e0 : wi (tM m 0) 292 14 (ic 0) = oM (tM m 0) (0, f) := oM_start (by rw [ri_wn _ _ _ (by decide)]; exact hf)
  have dw := dgn_b w
  have dx := dgn_b x
  have dy := dgn_b y
  have dt := dgn_b t
  have r : ∀ s, ri (oM (tM m 0) s) 293 = ri m 293 := fun s => by rw [oM_o (by decide) (by decide), t_f]
  have wn := fun (s : tx) (v : Nat) (h1 : v < 100000) (h2 : s.1 + dgn v ≤ 100) => m_writeNumber (n0 := n0) (S0 := S0) (G := G) (m := tM m 0) (N := N) (z := z) (d := d + 2) (s := s) (v := v) h1 h2
  have wr := fun (s : tx) (v : Nat) (h1 : s.1 < 100) => m_write (n0 := n0) (S0 := S0) (G := G) (m := tM m 0) (N := N) (z := z) (d := d + 3) (s := s) (x := v) h1
  have gw := fun (s : tx) (o : Nat) (h : o < 4) => m_w (n0 := n0) (S0 := S0) (G := G) (d := d + 3) (N := N) (z := z) (m := oM (tM m 0) s) (a := w) (o := o) (by omega)
  have a1 := wn (0, f) w (by omega) (by show 0 + dgn w ≤ 100; omega)
  have a2 := wr (wI (0, f) w) 64 (by show 0 + dgn w < 100; omega)
  have b3 := gw (wC (wI (0, f) w) 64) 0 (by omega)
  rw [r, hx.1] at b3
  have a3 := wn (wC (wI (0, f) w) 64) x hx.2 (by show 0 + dgn w + 1 + dgn x ≤ 100; omega)
  have a4 := wr (wI (wC (wI (0, f) w) 64) x) 44 (by show 0 + dgn w + 1 + dgn x < 100; omega)
  have b5 := gw (wC (wI (wC (wI (0, f) w) 64) x) 44) 1 (by omega)
  rw [r, hy.1] at b5
  have a5 := wn (wC (wI (wC (wI (0, f) w) 64) x) 44) y hy.2 (by show 0 + dgn w + 1 + dgn x + 1 + dgn y ≤ 100; omega)
  have a6 := wr (wI (wC (wI (wC (wI (0, f) w) 64) x) 44) y) 43 (by show 0 + dgn w + 1 + dgn x + 1 + dgn y < 100; omega)
  have b7 := gw (wC (wI (wC (wI (wC (wI (0, f) w) 64) x) 44) y) 43) 2 (by omega)
  rw [r, ht.1] at b7
  have a7 := wn (wC (wI (wC (wI (wC (wI (0, f) w) 64) x) 44) y) 43) t ht.2 (by show 0 + dgn w + 1 + dgn x + 1 + dgn y + 1 + dgn t ≤ 100; omega)
  have hle := hdF_le w x y t f
  have a8 := mw_tools (n0 := n0) (S0 := S0) (G := G) (m := tM m 0) (N := N) (z := z) (d := d) (w := w) (s := hdF w x y t f) (by omega) 6 (Nat.le_refl _)
  rw [t_f] at a8
  have hle2 := tlF_le (fun t => ri m 293 (12 + t) = ic (w + 1)) (hdF w x y t f) 6
  have a9 := mw_kinds (n0 := n0) (S0 := S0) (G := G) (m := tM m 0) (N := N) (z := z) (d := d) hw (s := tlF (fun t => ri m 293 (12 + t) = ic (w + 1)) (hdF w x y t f) 6) (by omega) (P := P) (by rw [t_f]; exact hP) 4 (Nat.le_refl _)
  have a10 : ri (oM (tM m 0) (kdF P (tlF (fun t => ri m 293 (12 + t) = ic (w + 1)) (hdF w x y t f) 6) 4)) 292 14 = ic (kdF P (tlF (fun t => ri m 293 (12 + t) = ic (w + 1)) (hdF w x y t f) 6) 4).1 := oM_14
  have hhd : wI (wC (wI (wC (wI (wC (wI (0, f) w) 64) x) 44) y) 43) t = hdF w x y t f := rfl
  rw [hhd] at a7
  rw [NModel_writeBarrow]
  generalize oM (tM m 0) (kdF P (tlF (fun t => ri m 293 (12 + t) = ic (w + 1)) (hdF w x y t f) 6) 4) = M10 at *
  generalize (kdF P (tlF (fun t => ri m 293 (12 + t) = ic (w + 1)) (hdF w x y t f) 6) 4).1 = LL at *
  generalize oM (tM m 0) (tlF (fun t => ri m 293 (12 + t) = ic (w + 1)) (hdF w x y t f) 6) = M9 at *
  generalize oM (tM m 0) (hdF w x y t f) = M8 at *
  generalize oM (tM m 0) (wC (wI (wC (wI (wC (wI (0, f) w) 64) x) 44) y) 43) = M7 at *
  generalize oM (tM m 0) (wI (wC (wI (wC (wI (0, f) w) 64) x) 44) y) = M6 at *
  generalize oM (tM m 0) (wC (wI (wC (wI (0, f) w) 64) x) 44) = M5 at *
  generalize oM (tM m 0) (wI (wC (wI (0, f) w) 64) x) = M4 at *
  generalize oM (tM m 0) (wC (wI (0, f) w) 64) = M3 at *
  generalize oM (tM m 0) (wI (0, f) w) = M2 at *
  generalize oM (tM m 0) (0, f) = M1 at *
  clear r wn wr gw
  simp (disch := first | assumption | (show (_ : Nat) < _; omega) | (show (_ : Nat) ≠ _; omega) | (show (_ : Nat) ≤ _; omega) | exact Or.inl rfl | exact Or.inr rfl) only [hG0, hG1, hG2, hF0, hF1, hA0, hA1, xL, xC, icL, Option.bind_some, Nat.le_add_right, Nat.le_refl, if_true, if_false, and_self, true_and, and_true, or_false, false_or, or_true, true_or, and_false, false_and, not_true_eq_false, not_false_eq_true, Nat.reduceAdd, Nat.reduceLeDiff, Nat.reduceLT, Option.toList_some, Option.toList_none, List.cons_append, List.nil_append, callK_ret, callR_ret, callK_thr, decide_true, Bool.true_and, xNr, bI0, bIT, bIF, ne_eq, Classical.not_not, not_false_eq_true, false_or, List.length_nil, icM, ic_lt, ic_eq, le_nl, ↓reduceIte, Nat.lt_irrefl, ri_ws, ri_wn, ri_as, ri_an, upd_s, upd_n, rp_wi, rp_wa, rl_wi, rl_wa, rl_wp, rl_wpa, rl_wl, rp_wl, ri_wl, rp_wd, ri_wd, in_rng, Int32.lt_irrefl, Nat.not_lt_zero, pk_nc, Nat.reduceEqDiff, Nat.succ_ne_self, Nat.one_ne_zero, Nat.add_left_cancel_iff, ri_wpa, ri_wp, QModel_writeBarrow_0, QModel_writeBarrow_1, QModel_writeBarrow_2, QModel_writeBarrow_3, QModel_writeBarrow_4, icY, m_isBarrow, hw, m_checkedT, e0, a1, a2, b3, a3, a4, b5, a5, a6, b7, a7]
  rw [a8, HModel_writeBarrow_73]
  simp (disch := first | assumption | (show (_ : Nat) < _; omega) | (show (_ : Nat) ≠ _; omega) | (show (_ : Nat) ≤ _; omega) | exact Or.inl rfl | exact Or.inr rfl) only [hG0, hG1, hG2, hF0, hF1, hA0, hA1, xL, xC, icL, Option.bind_some, Nat.le_add_right, Nat.le_refl, if_true, if_false, and_self, true_and, and_true, or_false, false_or, or_true, true_or, and_false, false_and, not_true_eq_false, not_false_eq_true, Nat.reduceAdd, Nat.reduceLeDiff, Nat.reduceLT, Option.toList_some, Option.toList_none, List.cons_append, List.nil_append, callK_ret, callR_ret, callK_thr, decide_true, Bool.true_and, xNr, bI0, bIT, bIF, ne_eq, Classical.not_not, not_false_eq_true, false_or, List.length_nil, icM, ic_lt, ic_eq, le_nl, ↓reduceIte, Nat.lt_irrefl, ri_ws, ri_wn, ri_as, ri_an, upd_s, upd_n, rp_wi, rp_wa, rl_wi, rl_wa, rl_wp, rl_wpa, rl_wl, rp_wl, ri_wl, rp_wd, ri_wd, in_rng, Int32.lt_irrefl, Nat.not_lt_zero, pk_nc, Nat.reduceEqDiff, Nat.succ_ne_self, Nat.one_ne_zero, Nat.add_left_cancel_iff, ri_wpa, ri_wp, QModel_writeBarrow_0, QModel_writeBarrow_1, QModel_writeBarrow_2, QModel_writeBarrow_3, QModel_writeBarrow_4]
  rw [a9, HModel_writeBarrow_122]
  simp (disch := first | assumption | (show (_ : Nat) < _; omega) | (show (_ : Nat) ≠ _; omega) | (show (_ : Nat) ≤ _; omega) | exact Or.inl rfl | exact Or.inr rfl) only [hG0, hG1, hG2, hF0, hF1, hA0, hA1, xL, xC, icL, Option.bind_some, Nat.le_add_right, Nat.le_refl, if_true, if_false, and_self, true_and, and_true, or_false, false_or, or_true, true_or, and_false, false_and, not_true_eq_false, not_false_eq_true, Nat.reduceAdd, Nat.reduceLeDiff, Nat.reduceLT, Option.toList_some, Option.toList_none, List.cons_append, List.nil_append, callK_ret, callR_ret, callK_thr, decide_true, Bool.true_and, xNr, bI0, bIT, bIF, ne_eq, Classical.not_not, not_false_eq_true, false_or, List.length_nil, icM, ic_lt, ic_eq, le_nl, ↓reduceIte, Nat.lt_irrefl, ri_ws, ri_wn, ri_as, ri_an, upd_s, upd_n, rp_wi, rp_wa, rl_wi, rl_wa, rl_wp, rl_wpa, rl_wl, rp_wl, ri_wl, rp_wd, ri_wd, in_rng, Int32.lt_irrefl, Nat.not_lt_zero, pk_nc, Nat.reduceEqDiff, Nat.succ_ne_self, Nat.one_ne_zero, Nat.add_left_cancel_iff, ri_wpa, ri_wp, QModel_writeBarrow_0, QModel_writeBarrow_1, QModel_writeBarrow_2, QModel_writeBarrow_3, QModel_writeBarrow_4, a10]
theorem m_writeNo {w : Int32} (hw : ¬ (¬ w < ic 0 ∧ w < ic 3)) : Mt (n0, S0) (d + 3) 221 [.ref (n0 + 292), .int w] (hp n0 G m, N, z) = oI n0 G (tM m 1) N z (ic 0) ∧ Mt (n0, S0) (d + 3) 224 [.ref (n0 + 292), .int w] (hp n0 G m, N, z) = oI n0 G (tM m 1) N z (ic 0) ∧ ∀ i, Mt (n0, S0) (d + 3) 211 [.ref (n0 + 292), .int w, .int i] (hp n0 G m, N, z) = oI n0 G (tM m 1) N z (ic 0) := by
  have k292 : kd 292 = 18 := rfl
  rw [NModel_writeBarrow, NModel_writePlan]
  refine ⟨?_, ?_, ?_⟩
  · simp (disch := first | assumption | (show (_ : Nat) < _; omega) | (show (_ : Nat) ≠ _; omega) | (show (_ : Nat) ≤ _; omega) | exact Or.inl rfl | exact Or.inr rfl) only [hG0, hG1, hG2, hF0, hF1, hA0, hA1, xL, xC, icL, Option.bind_some, Nat.le_add_right, Nat.le_refl, if_true, if_false, and_self, true_and, and_true, or_false, false_or, or_true, true_or, and_false, false_and, not_true_eq_false, not_false_eq_true, Nat.reduceAdd, Nat.reduceLeDiff, Nat.reduceLT, Option.toList_some, Option.toList_none, List.cons_append, List.nil_append, callK_ret, callR_ret, callK_thr, decide_true, Bool.true_and, xNr, bI0, bIT, bIF, ne_eq, Classical.not_not, not_false_eq_true, false_or, List.length_nil, icM, ic_lt, ic_eq, le_nl, ↓reduceIte, Nat.lt_irrefl, ri_ws, ri_wn, ri_as, ri_an, upd_s, upd_n, rp_wi, rp_wa, rl_wi, rl_wa, rl_wp, rl_wpa, rl_wl, rp_wl, ri_wl, rp_wd, ri_wd, in_rng, Int32.lt_irrefl, Nat.not_lt_zero, pk_nc, Nat.reduceEqDiff, Nat.succ_ne_self, Nat.one_ne_zero, Nat.add_left_cancel_iff, ri_wpa, ri_wp, QModel_writeBarrow_0, QModel_writeBarrow_1, QModel_writeBarrow_2, QModel_writeBarrow_3, QModel_writeBarrow_4, m_isBarrow, hw, m_checkedF]
  · simp (disch := first | assumption | (show (_ : Nat) < _; omega) | (show (_ : Nat) ≠ _; omega) | (show (_ : Nat) ≤ _; omega) | exact Or.inl rfl | exact Or.inr rfl) only [hG0, hG1, hG2, hF0, hF1, hA0, hA1, xL, xC, icL, Option.bind_some, Nat.le_add_right, Nat.le_refl, if_true, if_false, and_self, true_and, and_true, or_false, false_or, or_true, true_or, and_false, false_and, not_true_eq_false, not_false_eq_true, Nat.reduceAdd, Nat.reduceLeDiff, Nat.reduceLT, Option.toList_some, Option.toList_none, List.cons_append, List.nil_append, callK_ret, callR_ret, callK_thr, decide_true, Bool.true_and, xNr, bI0, bIT, bIF, ne_eq, Classical.not_not, not_false_eq_true, false_or, List.length_nil, icM, ic_lt, ic_eq, le_nl, ↓reduceIte, Nat.lt_irrefl, ri_ws, ri_wn, ri_as, ri_an, upd_s, upd_n, rp_wi, rp_wa, rl_wi, rl_wa, rl_wp, rl_wpa, rl_wl, rp_wl, ri_wl, rp_wd, ri_wd, in_rng, Int32.lt_irrefl, Nat.not_lt_zero, pk_nc, Nat.reduceEqDiff, Nat.succ_ne_self, Nat.one_ne_zero, Nat.add_left_cancel_iff, ri_wpa, ri_wp, QModel_writePlan_0, QModel_writePlan_1, QModel_writePlan_2, QModel_writePlan_3, m_isBarrow, hw, m_checkedF]
  · intro i
    rw [NModel_planned]
    simp (disch := first | assumption | (show (_ : Nat) < _; omega) | (show (_ : Nat) ≠ _; omega) | (show (_ : Nat) ≤ _; omega) | exact Or.inl rfl | exact Or.inr rfl) only [hG0, hG1, hG2, hF0, hF1, hA0, hA1, xL, xC, icL, Option.bind_some, Nat.le_add_right, Nat.le_refl, if_true, if_false, and_self, true_and, and_true, or_false, false_or, or_true, true_or, and_false, false_and, not_true_eq_false, not_false_eq_true, Nat.reduceAdd, Nat.reduceLeDiff, Nat.reduceLT, Option.toList_some, Option.toList_none, List.cons_append, List.nil_append, callK_ret, callR_ret, callK_thr, decide_true, Bool.true_and, xNr, bI0, bIT, bIF, ne_eq, Classical.not_not, not_false_eq_true, false_or, List.length_nil, icM, ic_lt, ic_eq, le_nl, ↓reduceIte, Nat.lt_irrefl, ri_ws, ri_wn, ri_as, ri_an, upd_s, upd_n, rp_wi, rp_wa, rl_wi, rl_wa, rl_wp, rl_wpa, rl_wl, rp_wl, ri_wl, rp_wd, ri_wd, in_rng, Int32.lt_irrefl, Nat.not_lt_zero, pk_nc, Nat.reduceEqDiff, Nat.succ_ne_self, Nat.one_ne_zero, Nat.add_left_cancel_iff, ri_wpa, ri_wp, QModel_planned_0, QModel_planned_1, m_isBarrow, hw, m_checkedF]
theorem in_top {i : Int32} {c : Nat} (hc : c ≤ 100) : (¬ i < ic 0 ∧ ¬ ic c - ic 1 < i) = (¬ i < ic 0 ∧ i < ic c) := by
  apply propext
  rw [Int32.lt_iff_toInt_lt, Int32.lt_iff_toInt_lt, Int32.lt_iff_toInt_lt, Int32.toInt_sub, ic_toInt (by omega), ic_toInt (by omega), ic_toInt (by omega)]
  have e : ((2 ^ 32 : Nat) : Int) = 4294967296 := rfl
  unfold Int.bmod
  dsimp only
  rw [e]
  split <;> omega
theorem m_planned {w n : Nat} {U0 : Nat → Nat} (hw : w < 3) (hn : ri m 293 0 = ic n) (h12 : n ≤ 12) (hu : ri m 297 = fun i => ic (U0 i)) (h6 : (coU (ri m 293) w U0 n).2 ≤ 6) {R : (Nat → Nat) × Int32 × (Nat → Int32)} (hR : plR m w n U0 = some R) {V : Nat → Nat} (hV : ∀ i, i < (coU (ri m 293) w U0 n).2 → R.2.2 i = ic (V i) ∧ V i < 12) {i : Int32} : Mt (n0, S0) (d + 5) 211 [.ref (n0 + 292), .int (ic w), .int i] (hp n0 G m, N, z) = if ¬ i < ic 0 ∧ i < ic (coU (ri m 293) w U0 n).2 then oI n0 G (rM (tM m 0) (coU (ri m 293) w U0 n).2 R.2.1 R.1 R.2.2) N z (ri m 293 (42 + 8 * V i.toNatClampNeg)) else oI n0 G (wi (rM (tM m 0) (coU (ri m 293) w U0 n).2 R.2.1 R.1 R.2.2) 292 6 (ic 2)) N z (ic 0) := by
  have k292 : kd 292 = 18 := rfl
  have k298 : kd 298 = 5 := rfl
  have h := m_plansT (n0 := n0) (S0 := S0) (G := G) (N := N) (z := z) (d := d) hw hn h12 hu h6 hR
  have h10 : ri (rM (tM m 0) (coU (ri m 293) w U0 n).2 R.2.1 R.1 R.2.2) 292 10 = ic (coU (ri m 293) w U0 n).2 := rM_10
  have h298 : ri (rM (tM m 0) (coU (ri m 293) w U0 n).2 R.2.1 R.1 R.2.2) 298 = R.2.2 := rM_298
  have h293 : ri (rM (tM m 0) (coU (ri m 293) w U0 n).2 R.2.1 R.1 R.2.2) 293 = ri m 293 := by rw [rM_o (by decide) (by decide) (by decide), t_f]
  rw [NModel_planned]
  generalize hM : rM (tM m 0) (coU (ri m 293) w U0 n).2 R.2.1 R.1 R.2.2 = M at *
  generalize (coU (ri m 293) w U0 n).2 = c at *
  have htop := in_top (i := i) (c := c) (by omega)
  by_cases hi : ¬ i < ic 0 ∧ i < ic c
  · obtain ⟨v, hv, rfl⟩ := rng_of (by omega) hi
    rw [if_pos hi, ic_nat (by omega)]
    obtain ⟨v1, v2⟩ := hV v hv
    have hj := m_j (n0 := n0) (S0 := S0) (G := G) (d := d + 3) (N := N) (z := z) (m := M) (a := V v) (o := 0) (by omega)
    rw [h293] at hj
    have hv6 : v < 6 := by omega
    have hb1 : bI (¬ ic v < ic 0 ∧ ¬ ic c - ic 1 < ic v) = ic 1 := if_pos (by rw [htop]; exact hi)
    have hin := fun (σ : sS) => m_in (n0 := n0) (S0 := S0) (d := d + 3) (σ := σ) (v := ic v) (lo := ic 0) (hi := ic c - ic 1)
    rw [hb1] at hin
    simp (disch := first | assumption | (show (_ : Nat) < _; omega) | (show (_ : Nat) ≠ _; omega) | (show (_ : Nat) ≤ _; omega) | exact Or.inl rfl | exact Or.inr rfl) only [hG0, hG1, hG2, hF0, hF1, hA0, hA1, xL, xC, icL, Option.bind_some, Nat.le_add_right, Nat.le_refl, if_true, if_false, and_self, true_and, and_true, or_false, false_or, or_true, true_or, and_false, false_and, not_true_eq_false, not_false_eq_true, Nat.reduceAdd, Nat.reduceLeDiff, Nat.reduceLT, Option.toList_some, Option.toList_none, List.cons_append, List.nil_append, callK_ret, callR_ret, callK_thr, decide_true, Bool.true_and, xNr, bI0, bIT, bIF, ne_eq, Classical.not_not, not_false_eq_true, false_or, List.length_nil, icM, ic_lt, ic_eq, le_nl, ↓reduceIte, Nat.lt_irrefl, ri_ws, ri_wn, ri_as, ri_an, upd_s, upd_n, rp_wi, rp_wa, rl_wi, rl_wa, rl_wp, rl_wpa, rl_wl, rp_wl, ri_wl, rp_wd, ri_wd, in_rng, Int32.lt_irrefl, Nat.not_lt_zero, pk_nc, Nat.reduceEqDiff, Nat.succ_ne_self, Nat.one_ne_zero, Nat.add_left_cancel_iff, ri_wpa, ri_wp, QModel_planned_0, QModel_planned_1, m_isBarrow, hw, m_checkedT, h, h10, hin, h298, v1, hj, Nat.add_zero]
  · rw [if_neg hi]
    have hb1 : bI (¬ i < ic 0 ∧ ¬ ic c - ic 1 < i) = ic 0 := if_neg (by rw [htop]; exact hi)
    have hin := fun (σ : sS) => m_in (n0 := n0) (S0 := S0) (d := d + 3) (σ := σ) (v := i) (lo := ic 0) (hi := ic c - ic 1)
    rw [hb1] at hin
    simp (disch := first | assumption | (show (_ : Nat) < _; omega) | (show (_ : Nat) ≠ _; omega) | (show (_ : Nat) ≤ _; omega) | exact Or.inl rfl | exact Or.inr rfl) only [hG0, hG1, hG2, hF0, hF1, hA0, hA1, xL, xC, icL, Option.bind_some, Nat.le_add_right, Nat.le_refl, if_true, if_false, and_self, true_and, and_true, or_false, false_or, or_true, true_or, and_false, false_and, not_true_eq_false, not_false_eq_true, Nat.reduceAdd, Nat.reduceLeDiff, Nat.reduceLT, Option.toList_some, Option.toList_none, List.cons_append, List.nil_append, callK_ret, callR_ret, callK_thr, decide_true, Bool.true_and, xNr, bI0, bIT, bIF, ne_eq, Classical.not_not, not_false_eq_true, false_or, List.length_nil, icM, ic_lt, ic_eq, le_nl, ↓reduceIte, Nat.lt_irrefl, ri_ws, ri_wn, ri_as, ri_an, upd_s, upd_n, rp_wi, rp_wa, rl_wi, rl_wa, rl_wp, rl_wpa, rl_wl, rp_wl, ri_wl, rp_wd, ri_wd, in_rng, Int32.lt_irrefl, Nat.not_lt_zero, pk_nc, Nat.reduceEqDiff, Nat.succ_ne_self, Nat.one_ne_zero, Nat.add_left_cancel_iff, ri_wpa, ri_wp, QModel_planned_0, QModel_planned_1, m_isBarrow, hw, m_checkedT, h, h10, hin, m_fail]
end M16
