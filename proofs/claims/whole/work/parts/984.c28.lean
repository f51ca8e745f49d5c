/-! the JDK's decimal digits written; expanded by wip/whole/px.py out of wip/whole/c28.src -/
section C28
variable {n0 N z d : Nat} {S0 : Nat → Value} {G : sH} {m : mm}
theorem hset_hset {G : sH} {a : Nat} {x y : sC} : hset (hset G a x) a y = hset G a y := by
  funext q
  unfold hset
  split <;> rfl
theorem aldI_ne {G : sH} {v q : Nat} {y : sC} (h : q ≠ v) (ty : FieldType) (i : Int32) : aldI ty (hset G v y) q i = aldI ty G q i := by
  unfold aldI
  rw [hset_n h]
/-- a table of the JDK's: what stands at r < 100 -/
def isTab (n0 : Nat) (G : sH) (D : Nat) (h : Nat → Nat) : Prop := D < n0 ∧ ∀ r, r < 100 → (aldI .byte G D (ic r)).or (aldI .boolean G D (ic r)) = some (.int (ic (h r)))
/-- the JDK's two tables -/
def isDig (n0 : Nat) (S0 : Nat → Value) (G : sH) : Prop := ∃ D1 D2, S0 1 = .ref D1 ∧ S0 2 = .ref D2 ∧ isTab n0 G D1 (fun r => 48 + r % 10) ∧ isTab n0 G D2 (fun r => 48 + r / 10)
section GC
variable {v L : Nat}
theorem tab_ld {D r : Nat} {h : Nat → Nat} {y : sC} (ht : isTab n0 G D h) (hv : n0 ≤ v) (hr : r < 100) : (aldI .byte (hp n0 (hset G v y) m) D (ic r)).or (aldI .boolean (hp n0 (hset G v y) m) D (ic r)) = some (.int (ic (h r))) := by
  have := ht.1
  rw [aldI_lt ht.1, aldI_lt ht.1, aldI_ne (by omega), aldI_ne (by omega)]
  exact ht.2 r hr
theorem by_st2 {g : Nat → Nat} {m : mm} (h : oA n0 v) (hL : L < 1000) {i x : Nat} (hi : i < L) (hx : x < 128) : (astI .byte (hp n0 (hset G v (byA L g)) m) v (ic i) (ic x)).or (astI .boolean (hp n0 (hset G v (byA L g)) m) v (ic i) (ic x)) = some (hp n0 (hset G v (byA L (updN g i x))) m) := by
  have := by_st (m := m) (i := i) (x := x) h (hset_s (G := G) (c := byA L g)) hL hi hx
  rw [hset_hset] at this
  exact this
theorem gc_step (hD : isDig n0 S0 G) (hv : oA n0 v) (hL : L < 1000) {a p : Nat} (ha : a < 100000) (h100 : 100 ≤ a) (hp2 : p + 2 ≤ L) {g : Nat → Nat} {l1 l3 l4 : Option Value} : Rx (n0, S0) d 319 22 [some (.int (-ic a)), l1, some (.ref v), l3, l4, some (.int (ic (p + 2))), some (.int (ic 0))] [] (hp n0 (hset G v (byA L g)) m, N, z) = Rx (n0, S0) d 319 22 [some (.int (-ic (a / 100))), l1, some (.ref v), some (.int (-ic (a / 100))), some (.int (ic (a % 100))), some (.int (ic p)), some (.int (ic 0))] [] (hp n0 (hset G v (byA L (updN (updN g (p + 1) (48 + a % 100 % 10)) p (48 + a % 100 / 10)))) m, N, z) := by
  obtain ⟨D1, D2, s1, s2, t1, t2⟩ := hD
  have e1 := fun y => tab_ld (m := m) (v := v) (y := y) t1 hv.1 (show a % 100 < 100 by omega)
  have e2 := fun y => tab_ld (m := m) (v := v) (y := y) t2 hv.1 (show a % 100 < 100 by omega)
  have w1 := fun g => by_st2 (G := G) (m := m) (g := g) hv hL (i := p + 1) (x := 48 + a % 100 % 10) (by omega) (by omega)
  have w2 := fun g => by_st2 (G := G) (m := m) (g := g) hv hL (i := p) (x := 48 + a % 100 / 10) (by omega) (by omega)
  have q1 : ic (p + 2) + -ic 1 = ic (p + 1) := ic_m1 (p + 1)
  have q2 := ic_m1 p
  have hl : ¬ a < 100 := by omega
  have hv0 := hv.1
  have hd := n_div (a := a) (by omega)
  have hm := n_mod a
  rw [HInteger_getChars_22]
  simp (disch := first | assumption | (show (_ : Nat) < _; omega) | (show (_ : Nat) ≠ _; omega) | (show (_ : Nat) ≤ _; omega) | exact Or.inl rfl | exact Or.inr rfl) only [hG0, hG1, hG2, hF0, hF1, hA0, hA1, xL, xC, icL, Option.bind_some, Nat.le_add_right, Nat.le_refl, if_true, if_false, and_self, true_and, and_true, or_false, false_or, or_true, true_or, and_false, false_and, not_true_eq_false, not_false_eq_true, Nat.reduceAdd, Nat.reduceLeDiff, Nat.reduceLT, Option.toList_some, Option.toList_none, List.cons_append, List.nil_append, callK_ret, callR_ret, callK_thr, decide_true, Bool.true_and, xNr, bI0, bIT, bIF, ne_eq, Classical.not_not, not_false_eq_true, false_or, List.length_nil, icM, ic_lt, ic_eq, le_nl, ↓reduceIte, Nat.lt_irrefl, ri_ws, ri_wn, ri_as, ri_an, upd_s, upd_n, rp_wi, rp_wa, rl_wi, rl_wa, rl_wp, rl_wpa, rl_wl, rp_wl, ri_wl, rp_wd, ri_wd, in_rng, Int32.lt_irrefl, Nat.not_lt_zero, pk_nc, Nat.reduceEqDiff, Nat.succ_ne_self, Nat.one_ne_zero, Nat.add_left_cancel_iff, ri_wpa, ri_wp, QInteger_getChars_0, QInteger_getChars_1, QInteger_getChars_2, ngl, hl, hd, hm, q1, q2, s1, s2, e1, e2, w1, w2, hv0]
theorem gc_end1 (hD : isDig n0 S0 G) (hv : oA n0 v) (hL : L < 1000) {a p : Nat} (ha : a < 10) (hp2 : p + 1 ≤ L) {g : Nat → Nat} {l1 l3 l4 : Option Value} : Rx (n0, S0) d 319 22 [some (.int (-ic a)), l1, some (.ref v), l3, l4, some (.int (ic (p + 1))), some (.int (ic 0))] [] (hp n0 (hset G v (byA L g)) m, N, z) = oI n0 (hset G v (byA L (updN g p (48 + a)))) m N z (ic p) := by
  obtain ⟨D1, D2, s1, s2, t1, t2⟩ := hD
  have e1 := fun y => tab_ld (m := m) (v := v) (y := y) t1 hv.1 (show a < 100 by omega)
  rw [show (48 + a % 10) = 48 + a by omega] at e1
  have w1 := fun g => by_st2 (G := G) (m := m) (g := g) hv hL (i := p) (x := 48 + a) (by omega) (by omega)
  have q2 := ic_m1 p
  have hl : a < 100 := by omega
  have hl2 : ¬ 9 < a := by omega
  have hv0 := hv.1
  rw [HInteger_getChars_22]
  simp (disch := first | assumption | (show (_ : Nat) < _; omega) | (show (_ : Nat) ≠ _; omega) | (show (_ : Nat) ≤ _; omega) | exact Or.inl rfl | exact Or.inr rfl) only [hG0, hG1, hG2, hF0, hF1, hA0, hA1, xL, xC, icL, Option.bind_some, Nat.le_add_right, Nat.le_refl, if_true, if_false, and_self, true_and, and_true, or_false, false_or, or_true, true_or, and_false, false_and, not_true_eq_false, not_false_eq_true, Nat.reduceAdd, Nat.reduceLeDiff, Nat.reduceLT, Option.toList_some, Option.toList_none, List.cons_append, List.nil_append, callK_ret, callR_ret, callK_thr, decide_true, Bool.true_and, xNr, bI0, bIT, bIF, ne_eq, Classical.not_not, not_false_eq_true, false_or, List.length_nil, icM, ic_lt, ic_eq, le_nl, ↓reduceIte, Nat.lt_irrefl, ri_ws, ri_wn, ri_as, ri_an, upd_s, upd_n, rp_wi, rp_wa, rl_wi, rl_wa, rl_wp, rl_wpa, rl_wl, rp_wl, ri_wl, rp_wd, ri_wd, in_rng, Int32.lt_irrefl, Nat.not_lt_zero, pk_nc, Nat.reduceEqDiff, Nat.succ_ne_self, Nat.one_ne_zero, Nat.add_left_cancel_iff, ri_wpa, ri_wp, QInteger_getChars_0, QInteger_getChars_1, QInteger_getChars_2, ngl, hl, hl2, q2, s1, s2, e1, w1, hv0, Int32.neg_neg]
theorem gc_end2 (hD : isDig n0 S0 G) (hv : oA n0 v) (hL : L < 1000) {a p : Nat} (ha : a < 100) (ha9 : 9 < a) (hp2 : p + 2 ≤ L) {g : Nat → Nat} {l1 l3 l4 : Option Value} : Rx (n0, S0) d 319 22 [some (.int (-ic a)), l1, some (.ref v), l3, l4, some (.int (ic (p + 2))), some (.int (ic 0))] [] (hp n0 (hset G v (byA L g)) m, N, z) = oI n0 (hset G v (byA L (updN (updN g (p + 1) (48 + a % 10)) p (48 + a / 10)))) m N z (ic p) := by
  obtain ⟨D1, D2, s1, s2, t1, t2⟩ := hD
  have e1 := fun y => tab_ld (m := m) (v := v) (y := y) t1 hv.1 (show a < 100 by omega)
  have e2 := fun y => tab_ld (m := m) (v := v) (y := y) t2 hv.1 (show a < 100 by omega)
  have w1 := fun g => by_st2 (G := G) (m := m) (g := g) hv hL (i := p + 1) (x := 48 + a % 10) (by omega) (by omega)
  have w2 := fun g => by_st2 (G := G) (m := m) (g := g) hv hL (i := p) (x := 48 + a / 10) (by omega) (by omega)
  have q1 : ic (p + 2) + -ic 1 = ic (p + 1) := ic_m1 (p + 1)
  have q2 := ic_m1 p
  have hv0 := hv.1
  rw [HInteger_getChars_22]
  simp (disch := first | assumption | (show (_ : Nat) < _; omega) | (show (_ : Nat) ≠ _; omega) | (show (_ : Nat) ≤ _; omega) | exact Or.inl rfl | exact Or.inr rfl) only [hG0, hG1, hG2, hF0, hF1, hA0, hA1, xL, xC, icL, Option.bind_some, Nat.le_add_right, Nat.le_refl, if_true, if_false, and_self, true_and, and_true, or_false, false_or, or_true, true_or, and_false, false_and, not_true_eq_false, not_false_eq_true, Nat.reduceAdd, Nat.reduceLeDiff, Nat.reduceLT, Option.toList_some, Option.toList_none, List.cons_append, List.nil_append, callK_ret, callR_ret, callK_thr, decide_true, Bool.true_and, xNr, bI0, bIT, bIF, ne_eq, Classical.not_not, not_false_eq_true, false_or, List.length_nil, icM, ic_lt, ic_eq, le_nl, ↓reduceIte, Nat.lt_irrefl, ri_ws, ri_wn, ri_as, ri_an, upd_s, upd_n, rp_wi, rp_wa, rl_wi, rl_wa, rl_wp, rl_wpa, rl_wl, rp_wl, ri_wl, rp_wd, ri_wd, in_rng, Int32.lt_irrefl, Nat.not_lt_zero, pk_nc, Nat.reduceEqDiff, Nat.succ_ne_self, Nat.one_ne_zero, Nat.add_left_cancel_iff, ri_wpa, ri_wp, QInteger_getChars_0, QInteger_getChars_1, QInteger_getChars_2, ngl, ha, ha9, q1, q2, s1, s2, e1, e2, w1, w2, hv0, Int32.neg_neg]
end GC
end C28
