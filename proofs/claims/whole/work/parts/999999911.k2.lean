/-! the making of a state; expanded by px.py out of k2.src -/
def zK (n0 b i1 i2 i3 o : Nat) : sC := if o = 0 then .inr (6, [.ref (n0 + (b + 1)), .int (ic 0), .int (ic 0), .ref (n0 + (b + 2)), .ref (n0 + (b + 3)), .ref (n0 + (b + 4)), .int (ic 0), .long 0, .long 0]) else if o = 1 then .inl (.object "RepairBarrows$Job", (12, .inr (.inr (.inr (.inr (fun t => if t < i1 then some (n0 + (b + (5 + t))) else none)))))) else if o = 2 then .inl (.object "RepairBarrows$Barrow", (3, .inr (.inr (.inr (.inr (fun t => if t < i2 then some (n0 + (b + (17 + 2 * t))) else none)))))) else if o = 3 then .inl (.int, (4, .inl (fun _ => ic 0))) else if o = 4 then .inl (.int, (6, .inl (fun t => if t < i3 then -ic 1 else ic 0))) else if o < 17 then jbK else if o % 2 = 1 then .inr (0, [.int (ic 0), .int (ic 0), .int (ic 0), .int (ic 0), .ref (n0 + (b + (o + 1)))]) else .inl (.int, (4, .inl (fun _ => ic 0)))
def sF (n0 : Nat) (f : Nat → sC) (b i1 i2 i3 : Nat) : Nat → sC := fun k => if k < b then f k else zK n0 b i1 i2 i3 (k - b)
section K2
variable {n0 N z d J i b i1 i2 i3 : Nat} {S0 : Nat → Value} {G : sH} {f g : Nat → sC}
theorem sF_lo {k : Nat} (h : k < b) : sF n0 f b i1 i2 i3 k = f k := if_pos h
theorem sF_hi {o : Nat} : sF n0 f b i1 i2 i3 (b + o) = zK n0 b i1 i2 i3 o := by
  unfold sF
  rw [if_neg (by omega), Nat.add_sub_cancel_left]
theorem sF_up {j1 j2 j3 : Nat} {o : Nat} (h : ∀ p, p ≠ o → zK n0 b j1 j2 j3 p = zK n0 b i1 i2 i3 p) {k : Nat} (hk : k ≠ b + o) : sF n0 f b j1 j2 j3 k = sF n0 f b i1 i2 i3 k := by
  by_cases h1 : k < b
  · rw [sF_lo h1, sF_lo h1]
  · obtain ⟨p, rfl⟩ : ∃ p, k = b + p := ⟨k - b, by omega⟩
    rw [sF_hi, sF_hi, h p (by omega)]
theorem zK_1 {j1 : Nat} : ∀ p, p ≠ 1 → zK n0 b j1 i2 i3 p = zK n0 b i1 i2 i3 p := fun p h => by
  unfold zK
  simp only [h, if_false]
theorem zK_2 {j2 : Nat} : ∀ p, p ≠ 2 → zK n0 b i1 j2 i3 p = zK n0 b i1 i2 i3 p := fun p h => by
  unfold zK
  simp only [h, if_false]
theorem zK_4 {j3 : Nat} : ∀ p, p ≠ 4 → zK n0 b i1 i2 j3 p = zK n0 b i1 i2 i3 p := fun p h => by
  unfold zK
  simp only [h, if_false]
theorem zK_job {o : Nat} (h : 5 ≤ o) (h2 : o < 17) : zK n0 b i1 i2 i3 o = jbK := by
  unfold zK
  rw [if_neg (by omega), if_neg (by omega), if_neg (by omega), if_neg (by omega), if_neg (by omega), if_pos (by omega)]
theorem zK_bar {t : Nat} : zK n0 b i1 i2 i3 (17 + 2 * t) = .inr (0, [.int (ic 0), .int (ic 0), .int (ic 0), .int (ic 0), .ref (n0 + (b + (17 + 2 * t + 1)))]) := by
  unfold zK
  rw [if_neg (by omega), if_neg (by omega), if_neg (by omega), if_neg (by omega), if_neg (by omega), if_neg (by omega), if_pos (by omega)]
theorem zK_par {t : Nat} : zK n0 b i1 i2 i3 (17 + 2 * t + 1) = .inl (.int, (4, .inl (fun _ => ic 0))) := by
  unfold zK
  rw [if_neg (by omega), if_neg (by omega), if_neg (by omega), if_neg (by omega), if_neg (by omega), if_neg (by omega), if_neg (by omega)]
theorem va_up_l (e : Nat → Nat) (i : Nat) : va_up (fun t => if t < i then some (e t) else none) i (some (e i)) = fun t => if t < i + 1 then some (e t) else none := by
  funext t
  unfold va_up
  by_cases h : t = i
  · subst h
    simp
  · by_cases h2 : t < i
    · simp [h, h2, show t < i + 1 by omega]
    · simp [h, h2, show ¬ t < i + 1 by omega]
theorem upd_l (u v : Int32) (i : Nat) : upd (fun t => if t < i then u else v) i u = fun t => if t < i + 1 then u else v := by
  funext t
  unfold upd
  by_cases h : t = i
  · subst h
    simp
  · by_cases h2 : t < i
    · simp [h, h2, show t < i + 1 by omega]
    · simp [h, h2, show ¬ t < i + 1 by omega]
theorem State_l1 (hi : i < 12) : Rx (n0, S0) (d + 1) 41 63 [some (.ref (n0 + b)), some (.int (ic i))] [] (bk G n0 (b + (5 + i)) (sF n0 f b i 0 0), n0 + (b + (5 + i)), z) = Rx (n0, S0) (d + 1) 41 63 [some (.ref (n0 + b)), some (.int (ic (i + 1)))] [] (bk G n0 (b + (5 + (i + 1))) (sF n0 f b (i + 1) 0 0), n0 + (b + (5 + (i + 1))), z + 8) := by
  have hgf : gf (bk G n0 (b + (5 + i)) (sF n0 f b i 0 0)) (n0 + b) 6 0 = some (.ref (n0 + (b + 1))) := by
    rw [bk_gfu (by omega), show sF n0 f b i 0 0 b = _ from sF_hi (o := 0)]
    rfl
  have hnew : hset (bk G n0 (b + (5 + i)) (sF n0 f b i 0 0)) (n0 + (b + (5 + i))) (.inr (3, [.int (ic 0), .int (ic 0), .int (ic 0), .int (ic 0), .int (ic 0), .int (ic 0), .int (ic 0), .int (ic 0)])) = bk G n0 (b + (5 + (i + 1))) (uC (sF n0 f b i 0 0) (b + (5 + i)) j0K) := bk_newu _
  have hin := fun N z => c_Job_init (n0 := n0) (S0 := S0) (G := G) (d := d) (N := N) (z := z) (b := b + (5 + i)) (g := sF n0 f b i 0 0) (by rw [sF_hi, zK_job (by omega) (by omega)])
  rw [show b + (5 + i) + 1 = b + (5 + (i + 1)) by omega] at hin
  have hst : astR (bk G n0 (b + (5 + (i + 1))) (sF n0 f b i 0 0)) (n0 + (b + 1)) (ic i) (n0 + (b + (5 + i))) = some (bk G n0 (b + (5 + (i + 1))) (sF n0 f b (i + 1) 0 0)) := bk_astR (c := 3) (n := 12) (by omega) (by omega) sF_hi (by rw [sF_hi, zK_job (by omega) (by omega)]; rfl) rfl hi (by decide) (by rw [sF_hi, va_up_l (fun t => n0 + (b + (5 + t)))]; rfl) (fun k _ hk => sF_up zK_1 hk)
  rw [HState_init_63]
  simp (disch := first | assumption | (show (_ : Nat) < _; omega) | (show (_ : Nat) ≠ _; omega) | (show (_ : Nat) ≤ _; omega) | exact Or.inl rfl | exact Or.inr rfl) only [hG0, hG1, hG2, hF0, hF1, hA0, hA1, xL, xC, icL, Option.bind_some, Nat.le_add_right, Nat.le_refl, if_true, if_false, and_self, true_and, and_true, or_false, false_or, or_true, true_or, and_false, false_and, not_true_eq_false, not_false_eq_true, Nat.reduceAdd, Nat.reduceLeDiff, Nat.reduceLT, Option.toList_some, Option.toList_none, List.cons_append, List.nil_append, callK_ret, callR_ret, callK_thr, decide_true, Bool.true_and, xNr, bI0, bIT, bIF, ne_eq, Classical.not_not, not_false_eq_true, false_or, List.length_nil, icM, ic_lt, ic_eq, le_nl, ↓reduceIte, Nat.lt_irrefl, ri_ws, ri_wn, ri_as, ri_an, upd_s, upd_n, rp_wi, rp_wa, rl_wi, rl_wa, rl_wp, rl_wpa, rl_wl, rp_wl, ri_wl, rp_wd, ri_wd, in_rng, Int32.lt_irrefl, Nat.not_lt_zero, pk_nc, Nat.reduceEqDiff, Nat.succ_ne_self, Nat.one_ne_zero, Nat.add_left_cancel_iff, ri_wpa, ri_wp, QState_init_0, QState_init_1, QState_init_2, hgf, hnew, hin, hst, hi, Nat.add_assoc, ic_add]
theorem State_l2 (hi : i < 3) : Rx (n0, S0) (d + 1) 41 90 [some (.ref (n0 + b)), some (.int (ic i))] [] (bk G n0 (b + (17 + 2 * i)) (sF n0 f b 12 i 0), n0 + (b + (17 + 2 * i)), z) = Rx (n0, S0) (d + 1) 41 90 [some (.ref (n0 + b)), some (.int (ic (i + 1)))] [] (bk G n0 (b + (17 + (2 * i + 2))) (sF n0 f b 12 (i + 1) 0), n0 + (b + (17 + (2 * i + 2))), z + 9) := by
  have hgf : gf (bk G n0 (b + (17 + 2 * i)) (sF n0 f b 12 i 0)) (n0 + b) 6 3 = some (.ref (n0 + (b + 2))) := by
    rw [bk_gfu (by omega), show sF n0 f b 12 i 0 b = _ from sF_hi (o := 0)]
    rfl
  have hnew : hset (bk G n0 (b + (17 + 2 * i)) (sF n0 f b 12 i 0)) (n0 + (b + (17 + 2 * i))) (.inr (0, [.int (ic 0), .int (ic 0), .int (ic 0), .int (ic 0), .null])) = bk G n0 (b + (17 + (2 * i + 1))) (uC (sF n0 f b 12 i 0) (b + (17 + 2 * i)) (.inr (0, [.int (ic 0), .int (ic 0), .int (ic 0), .int (ic 0), .null]))) := bk_newu _
  have hin := fun z => c_Barrow_init (n0 := n0) (S0 := S0) (G := G) (d := d) (z := z) (b := b + (17 + 2 * i)) (f := uC (sF n0 f b 12 i 0) (b + (17 + 2 * i)) (.inr (0, [.int (ic 0), .int (ic 0), .int (ic 0), .int (ic 0), .null]))) (g := sF n0 f b 12 i 0) (uC_s _) (by rw [sF_hi, zK_bar]; rfl) (by rw [show b + (17 + 2 * i) + 1 = b + (17 + 2 * i + 1) by omega, sF_hi, zK_par]) (fun k hk => (uC_n _ (by omega)).symm)
  have hst : astR (bk G n0 (b + (17 + (2 * i + 2))) (sF n0 f b 12 i 0)) (n0 + (b + 2)) (ic i) (n0 + (b + (17 + 2 * i))) = some (bk G n0 (b + (17 + (2 * i + 2))) (sF n0 f b 12 (i + 1) 0)) := bk_astR (c := 0) (n := 3) (by omega) (by omega) sF_hi (by rw [sF_hi, zK_bar]) rfl hi (by decide) (by rw [sF_hi, va_up_l (fun t => n0 + (b + (17 + 2 * t)))]; rfl) (fun k _ hk => sF_up zK_2 hk)
  rw [show b + (17 + 2 * i) + 1 = b + (17 + (2 * i + 1)) by omega, show b + (17 + 2 * i) + 2 = b + (17 + (2 * i + 2)) by omega] at hin
  rw [HState_init_90]
  simp (disch := first | assumption | (show (_ : Nat) < _; omega) | (show (_ : Nat) ≠ _; omega) | (show (_ : Nat) ≤ _; omega) | exact Or.inl rfl | exact Or.inr rfl) only [hG0, hG1, hG2, hF0, hF1, hA0, hA1, xL, xC, icL, Option.bind_some, Nat.le_add_right, Nat.le_refl, if_true, if_false, and_self, true_and, and_true, or_false, false_or, or_true, true_or, and_false, false_and, not_true_eq_false, not_false_eq_true, Nat.reduceAdd, Nat.reduceLeDiff, Nat.reduceLT, Option.toList_some, Option.toList_none, List.cons_append, List.nil_append, callK_ret, callR_ret, callK_thr, decide_true, Bool.true_and, xNr, bI0, bIT, bIF, ne_eq, Classical.not_not, not_false_eq_true, false_or, List.length_nil, icM, ic_lt, ic_eq, le_nl, ↓reduceIte, Nat.lt_irrefl, ri_ws, ri_wn, ri_as, ri_an, upd_s, upd_n, rp_wi, rp_wa, rl_wi, rl_wa, rl_wp, rl_wpa, rl_wl, rp_wl, ri_wl, rp_wd, ri_wd, in_rng, Int32.lt_irrefl, Nat.not_lt_zero, pk_nc, Nat.reduceEqDiff, Nat.succ_ne_self, Nat.one_ne_zero, Nat.add_left_cancel_iff, ri_wpa, ri_wp, QState_init_0, QState_init_1, QState_init_2, hgf, hnew, hst, hin, hi, Nat.add_assoc, ic_add]
theorem State_l3 (hi : i < 6) : Rx (n0, S0) (d + 1) 41 116 [some (.ref (n0 + b)), some (.int (ic i))] [] (bk G n0 (b + 23) (sF n0 f b 12 3 i), N, z) = Rx (n0, S0) (d + 1) 41 116 [some (.ref (n0 + b)), some (.int (ic (i + 1)))] [] (bk G n0 (b + 23) (sF n0 f b 12 3 (i + 1)), N, z) := by
  have hgf : gf (bk G n0 (b + 23) (sF n0 f b 12 3 i)) (n0 + b) 6 5 = some (.ref (n0 + (b + 4))) := by
    rw [bk_gfu (by omega), show sF n0 f b 12 3 i b = _ from sF_hi (o := 0)]
    rfl
  have hst : astI .int (bk G n0 (b + 23) (sF n0 f b 12 3 i)) (n0 + (b + 4)) (ic i) (-ic 1) = some (bk G n0 (b + 23) (sF n0 f b 12 3 (i + 1))) := bk_astI (n := 6) (a := fun t => if t < i then -ic 1 else ic 0) (by omega) sF_hi hi (by decide) (by rw [sF_hi, upd_l]; rfl) (fun k _ hk => sF_up zK_4 hk)
  rw [HState_init_116]
  simp (disch := first | assumption | (show (_ : Nat) < _; omega) | (show (_ : Nat) ≠ _; omega) | (show (_ : Nat) ≤ _; omega) | exact Or.inl rfl | exact Or.inr rfl) only [hG0, hG1, hG2, hF0, hF1, hA0, hA1, xL, xC, icL, Option.bind_some, Nat.le_add_right, Nat.le_refl, if_true, if_false, and_self, true_and, and_true, or_false, false_or, or_true, true_or, and_false, false_and, not_true_eq_false, not_false_eq_true, Nat.reduceAdd, Nat.reduceLeDiff, Nat.reduceLT, Option.toList_some, Option.toList_none, List.cons_append, List.nil_append, callK_ret, callR_ret, callK_thr, decide_true, Bool.true_and, xNr, bI0, bIT, bIF, ne_eq, Classical.not_not, not_false_eq_true, false_or, List.length_nil, icM, ic_lt, ic_eq, le_nl, ↓reduceIte, Nat.lt_irrefl, ri_ws, ri_wn, ri_as, ri_an, upd_s, upd_n, rp_wi, rp_wa, rl_wi, rl_wa, rl_wp, rl_wpa, rl_wl, rp_wl, ri_wl, rp_wd, ri_wd, in_rng, Int32.lt_irrefl, Nat.not_lt_zero, pk_nc, Nat.reduceEqDiff, Nat.succ_ne_self, Nat.one_ne_zero, Nat.add_left_cancel_iff, ri_wpa, ri_wp, QState_init_0, QState_init_1, QState_init_2, hgf, hst, hi, ic_add]
theorem c_State_init (hf : f b = .inr (6, [.null, .int (ic 0), .int (ic 0), .null, .null, .null, .int (ic 0), .long 0, .long 0])) (hg1 : ∀ k, k < b → g k = f k) (hg2 : ∀ o, o < 23 → g (b + o) = zK n0 b 12 3 6 o) : Mt (n0, S0) (d + 2) 41 [.ref (n0 + b)] (bk G n0 (b + 1) f, n0 + (b + 1), z) = some (.inl none, (bk G n0 (b + 23) g, n0 + (b + 23), z + 148)) := by
  have hcb : componentBytes .int = 4 := rfl
  have step : ∀ (h : Nat → sC), (∀ k, k < b + 5 → h k = sF n0 f b 0 0 0 k) → Rx (n0, S0) (d + 1) 41 63 [some (.ref (n0 + b)), some (.int (ic 0))] [] (bk G n0 (b + 5) h, n0 + (b + 5), z + 25) = some (.inl none, (bk G n0 (b + 23) g, n0 + (b + 23), z + 148)) := fun h hh => by
    rw [bk_ext hh]
    have r1 := iter (fun i => Rx (n0, S0) (d + 1) 41 63 [some (.ref (n0 + b)), some (.int (ic i))] [] (bk G n0 (b + (5 + i)) (sF n0 f b i 0 0), n0 + (b + (5 + i)), z + 25 + 8 * i)) 12 (fun i hi => State_l1 hi)
    have r2 := iter (fun i => Rx (n0, S0) (d + 1) 41 90 [some (.ref (n0 + b)), some (.int (ic i))] [] (bk G n0 (b + (17 + 2 * i)) (sF n0 f b 12 i 0), n0 + (b + (17 + 2 * i)), z + 121 + 9 * i)) 3 (fun i hi => State_l2 hi)
    have r3 := iter (fun i => Rx (n0, S0) (d + 1) 41 116 [some (.ref (n0 + b)), some (.int (ic i))] [] (bk G n0 (b + 23) (sF n0 f b 12 3 i), n0 + (b + 23), z + 148)) 6 (fun i hi => State_l3 hi)
    refine r1.trans ?_
    have m1 : Rx (n0, S0) (d + 1) 41 63 [some (.ref (n0 + b)), some (.int (ic 12))] [] (bk G n0 (b + (5 + 12)) (sF n0 f b 12 0 0), n0 + (b + (5 + 12)), z + 25 + 8 * 12) = Rx (n0, S0) (d + 1) 41 90 [some (.ref (n0 + b)), some (.int (ic 0))] [] (bk G n0 (b + (17 + 2 * 0)) (sF n0 f b 12 0 0), n0 + (b + (17 + 2 * 0)), z + 121 + 9 * 0) := by
      rw [HState_init_63]
      simp (disch := first | assumption | (show (_ : Nat) < _; omega) | (show (_ : Nat) ≠ _; omega) | (show (_ : Nat) ≤ _; omega) | exact Or.inl rfl | exact Or.inr rfl) only [hG0, hG1, hG2, hF0, hF1, hA0, hA1, xL, xC, icL, Option.bind_some, Nat.le_add_right, Nat.le_refl, if_true, if_false, and_self, true_and, and_true, or_false, false_or, or_true, true_or, and_false, false_and, not_true_eq_false, not_false_eq_true, Nat.reduceAdd, Nat.reduceLeDiff, Nat.reduceLT, Option.toList_some, Option.toList_none, List.cons_append, List.nil_append, callK_ret, callR_ret, callK_thr, decide_true, Bool.true_and, xNr, bI0, bIT, bIF, ne_eq, Classical.not_not, not_false_eq_true, false_or, List.length_nil, icM, ic_lt, ic_eq, le_nl, ↓reduceIte, Nat.lt_irrefl, ri_ws, ri_wn, ri_as, ri_an, upd_s, upd_n, rp_wi, rp_wa, rl_wi, rl_wa, rl_wp, rl_wpa, rl_wl, rp_wl, ri_wl, rp_wd, ri_wd, in_rng, Int32.lt_irrefl, Nat.not_lt_zero, pk_nc, Nat.reduceEqDiff, Nat.succ_ne_self, Nat.one_ne_zero, Nat.add_left_cancel_iff, ri_wpa, ri_wp, QState_init_0, QState_init_1, QState_init_2]
    refine m1.trans (r2.trans ?_)
    have m2 : Rx (n0, S0) (d + 1) 41 90 [some (.ref (n0 + b)), some (.int (ic 3))] [] (bk G n0 (b + (17 + 2 * 3)) (sF n0 f b 12 3 0), n0 + (b + (17 + 2 * 3)), z + 121 + 9 * 3) = Rx (n0, S0) (d + 1) 41 116 [some (.ref (n0 + b)), some (.int (ic 0))] [] (bk G n0 (b + 23) (sF n0 f b 12 3 0), n0 + (b + 23), z + 148) := by
      rw [HState_init_90]
      simp (disch := first | assumption | (show (_ : Nat) < _; omega) | (show (_ : Nat) ≠ _; omega) | (show (_ : Nat) ≤ _; omega) | exact Or.inl rfl | exact Or.inr rfl) only [hG0, hG1, hG2, hF0, hF1, hA0, hA1, xL, xC, icL, Option.bind_some, Nat.le_add_right, Nat.le_refl, if_true, if_false, and_self, true_and, and_true, or_false, false_or, or_true, true_or, and_false, false_and, not_true_eq_false, not_false_eq_true, Nat.reduceAdd, Nat.reduceLeDiff, Nat.reduceLT, Option.toList_some, Option.toList_none, List.cons_append, List.nil_append, callK_ret, callR_ret, callK_thr, decide_true, Bool.true_and, xNr, bI0, bIT, bIF, ne_eq, Classical.not_not, not_false_eq_true, false_or, List.length_nil, icM, ic_lt, ic_eq, le_nl, ↓reduceIte, Nat.lt_irrefl, ri_ws, ri_wn, ri_as, ri_an, upd_s, upd_n, rp_wi, rp_wa, rl_wi, rl_wa, rl_wp, rl_wpa, rl_wl, rp_wl, ri_wl, rp_wd, ri_wd, in_rng, Int32.lt_irrefl, Nat.not_lt_zero, pk_nc, Nat.reduceEqDiff, Nat.succ_ne_self, Nat.one_ne_zero, Nat.add_left_cancel_iff, ri_wpa, ri_wp, QState_init_0, QState_init_1, QState_init_2]
    refine m2.trans (r3.trans ?_)
    have e : bk G n0 (b + 23) (sF n0 f b 12 3 6) = bk G n0 (b + 23) g := bk_ext (fun k hk => by
      by_cases h1 : k < b
      · rw [sF_lo h1, hg1 k h1]
      · obtain ⟨p, rfl⟩ : ∃ p, k = b + p := ⟨k - b, by omega⟩
        rw [sF_hi, hg2 p (by omega)])
    show Rx (n0, S0) (d + 1) 41 116 [some (.ref (n0 + b)), some (.int (ic 6))] [] (bk G n0 (b + 23) (sF n0 f b 12 3 6), n0 + (b + 23), z + 148) = _
    rw [e, HState_init_116]
    simp (disch := first | assumption | (show (_ : Nat) < _; omega) | (show (_ : Nat) ≠ _; omega) | (show (_ : Nat) ≤ _; omega) | exact Or.inl rfl | exact Or.inr rfl) only [hG0, hG1, hG2, hF0, hF1, hA0, hA1, xL, xC, icL, Option.bind_some, Nat.le_add_right, Nat.le_refl, if_true, if_false, and_self, true_and, and_true, or_false, false_or, or_true, true_or, and_false, false_and, not_true_eq_false, not_false_eq_true, Nat.reduceAdd, Nat.reduceLeDiff, Nat.reduceLT, Option.toList_some, Option.toList_none, List.cons_append, List.nil_append, callK_ret, callR_ret, callK_thr, decide_true, Bool.true_and, xNr, bI0, bIT, bIF, ne_eq, Classical.not_not, not_false_eq_true, false_or, List.length_nil, icM, ic_lt, ic_eq, le_nl, ↓reduceIte, Nat.lt_irrefl, ri_ws, ri_wn, ri_as, ri_an, upd_s, upd_n, rp_wi, rp_wa, rl_wi, rl_wa, rl_wp, rl_wpa, rl_wl, rp_wl, ri_wl, rp_wd, ri_wd, in_rng, Int32.lt_irrefl, Nat.not_lt_zero, pk_nc, Nat.reduceEqDiff, Nat.succ_ne_self, Nat.one_ne_zero, Nat.add_left_cancel_iff, ri_wpa, ri_wp, QState_init_0, QState_init_1, QState_init_2]
  rw [NState_init]
  simp (disch := first | assumption | (show (_ : Nat) < _; omega) | (show (_ : Nat) ≠ _; omega) | (show (_ : Nat) ≤ _; omega) | exact Or.inl rfl | exact Or.inr rfl) only [hG0, hG1, hG2, hF0, hF1, hA0, hA1, xL, xC, icL, Option.bind_some, Nat.le_add_right, Nat.le_refl, if_true, if_false, and_self, true_and, and_true, or_false, false_or, or_true, true_or, and_false, false_and, not_true_eq_false, not_false_eq_true, Nat.reduceAdd, Nat.reduceLeDiff, Nat.reduceLT, Option.toList_some, Option.toList_none, List.cons_append, List.nil_append, callK_ret, callR_ret, callK_thr, decide_true, Bool.true_and, xNr, bI0, bIT, bIF, ne_eq, Classical.not_not, not_false_eq_true, false_or, List.length_nil, icM, ic_lt, ic_eq, le_nl, ↓reduceIte, Nat.lt_irrefl, ri_ws, ri_wn, ri_as, ri_an, upd_s, upd_n, rp_wi, rp_wa, rl_wi, rl_wa, rl_wp, rl_wpa, rl_wl, rp_wl, ri_wl, rp_wd, ri_wd, in_rng, Int32.lt_irrefl, Nat.not_lt_zero, pk_nc, Nat.reduceEqDiff, Nat.succ_ne_self, Nat.one_ne_zero, Nat.add_left_cancel_iff, ri_wpa, ri_wp, QState_init_0, QState_init_1, QState_init_2, hcb, ic_nat, bk_newu, bk_pfu, hf, pfc_o, uC_s, uC_n, uC_u, List.set_cons_zero, List.set_cons_succ, List.length_cons, Option.map_some, Nat.reduceMul, Nat.add_assoc]
  refine step _ (fun k hk => ?_)
  unfold sF uC
  rcases (by omega : k < b ∨ k = b + 0 ∨ k = b + 1 ∨ k = b + 2 ∨ k = b + 3 ∨ k = b + 4) with h | rfl | rfl | rfl | rfl | rfl
  · have a0 : k ≠ b := by omega
    have a1 : k ≠ b + 1 := by omega
    have a2 : k ≠ b + 2 := by omega
    have a3 : k ≠ b + 3 := by omega
    have a4 : k ≠ b + 4 := by omega
    simp [h, a0, a1, a2, a3, a4]
  all_goals (simp [zK] <;> (intro h; omega))
end K2
