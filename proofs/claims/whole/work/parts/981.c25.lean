/-! the JDK's StringBuilder: more room; expanded by wip/whole/px.py out of wip/whole/c25.src -/
section C25
variable {n0 N z d : Nat} {S0 : Nat → Value} {G : sH} {m : mm}
theorem ic_subNp {a b : Nat} (h : a ≤ b) (hb : b < 1000) : ¬ ic 0 < ic a - ic b := by
  rw [Int32.lt_iff_toInt_lt, Int32.toInt_sub, ic_toInt (by omega), ic_toInt (by omega), ic_toInt (by omega)]
  have e : ((2 ^ 32 : Nat) : Int) = 4294967296 := rfl
  unfold Int.bmod
  dsimp only
  rw [e]
  split <;> omega
theorem hset_s {G : sH} {a : Nat} {c : sC} : hset G a c a = some c := if_pos rfl
theorem hset_n {G : sH} {a q : Nat} {c : sC} (h : q ≠ a) : hset G a c q = G q := if_neg h
theorem j_copyOf {v L L2 : Nat} {g : Nat → Nat} (h : oA n0 v) (hv : G v = some (byA L g)) (hg : ∀ i, g i < 128) (hl : L < L2) (hl2 : L2 < 1000) (hvN : v < N) (hN : n0 + 305 ≤ N) : ∃ G1, Mt (n0, S0) (d + 1) 321 [.ref v, .int (ic L2)] (hp n0 G m, N, z) = some (.inl (some (.ref N)), (hp n0 G1 m, N + 1, z + L2)) ∧ G1 N = some (byA L2 (fun i => if i < L then g i else 0)) ∧ ∀ q, q ≠ N → G1 q = G q := by
  have hoN : oA n0 N := oA_hi hN
  have hh : hset (hp n0 G m) N (.inl (.byte, (L2, .inl (fun _ => ic 0)))) = hp n0 (hset G N (byA L2 (fun _ => 0))) m := hset_out hoN.out
  have hG1 : hset G N (byA L2 (fun _ => 0)) v = some (byA L g) := (hset_n (by omega)).trans hv
  have hal := by_alen (m := m) h hG1
  have hcp := by_cpy (m := m) h hG1 (by omega) hg hoN hset_s (by omega) (Nat.le_refl L) (p := 0) (by omega) (by omega)
  have hal0 := by_alen (m := m) h hv
  have hcb : componentBytes .byte = 1 := rfl
  have hsz : ¬ 536870912 < L2 * 1 := by omega
  have hll : ¬ L2 < L := by omega
  have hne : ¬ L2 = L := by omega
  have hN0 : n0 ≤ N := by omega
  refine ⟨hset (hset G N (byA L2 (fun _ => 0))) N (byA L2 (fun i => if i < L then g i else 0)), ?_, ?_, ?_⟩
  rotate_left
  · exact hset_s (G := hset G N (byA L2 (fun _ => 0)))
  · intro q hq
    rw [hset_n hq, hset_n hq]
  · have e2 : (fun i => if 0 ≤ i ∧ i < 0 + L then g (i - 0) else (fun _ : Nat => 0) i) = fun i => if i < L then g i else 0 := by
      funext i
      simp
    rw [e2] at hcp
    rw [NArrays_copyOf]
    simp (disch := first | assumption | (show (_ : Nat) < _; omega) | (show (_ : Nat) ≠ _; omega) | (show (_ : Nat) ≤ _; omega) | exact Or.inl rfl | exact Or.inr rfl) only [hG0, hG1, hG2, hF0, hF1, hA0, hA1, xL, xC, icL, Option.bind_some, Nat.le_add_right, Nat.le_refl, if_true, if_false, and_self, true_and, and_true, or_false, false_or, or_true, true_or, and_false, false_and, not_true_eq_false, not_false_eq_true, Nat.reduceAdd, Nat.reduceLeDiff, Nat.reduceLT, Option.toList_some, Option.toList_none, List.cons_append, List.nil_append, callK_ret, callR_ret, callK_thr, decide_true, Bool.true_and, xNr, bI0, bIT, bIF, ne_eq, Classical.not_not, not_false_eq_true, false_or, List.length_nil, icM, ic_lt, ic_eq, le_nl, ↓reduceIte, Nat.lt_irrefl, ri_ws, ri_wn, ri_as, ri_an, upd_s, upd_n, rp_wi, rp_wa, rl_wi, rl_wa, rl_wp, rl_wpa, rl_wl, rp_wl, ri_wl, rp_wd, ri_wd, in_rng, Int32.lt_irrefl, Nat.not_lt_zero, pk_nc, Nat.reduceEqDiff, Nat.succ_ne_self, Nat.one_ne_zero, Nat.add_left_cancel_iff, ri_wpa, ri_wp, QArrays_copyOf_0, hal0, hne, hcb, hsz, ic_nat, hh, hal, hll, hN0, hcp]
theorem j_newCapacity {k c q : Nat} {f : Nat → Nat} (hb : SB n0 G m N k c f) (h1 : cap k < q) (h2 : q ≤ cap k + 12) : Mt (n0, S0) (d + 2) 295 [.ref (n0 + 290), .int (ic q)] (hp n0 G m, N, z) = oI n0 G m N z (ic (2 * cap k + 2)) := by
  have k290 : kd 290 = 17 := rfl
  obtain ⟨g, b1, b2, b3, b4, b5, b6, b7, b8, b9, b10⟩ := hb
  have hc := cap_b b9
  have ha := by_alen (m := m) b1 b3
  generalize cap k = L at *
  have hs : ic q - ic L = ic (q - L) := ic_sub (by omega)
  have hn := j_newLength (n0 := n0) (S0 := S0) (G := G) (m := m) (N := N) (z := z) (d := d) (L := L) (g := q - L) (by omega) (by omega)
  have h5 : ¬ ic (2 * L + 2) = 2147483647 := by
    intro e
    have h6 := congrArg Int32.toInt e
    rw [ic_toInt (by omega), show (2147483647 : Int32).toInt = 2147483647 from by decide] at h6
    omega
  rw [NASB_newCapacity]
  simp (disch := first | assumption | (show (_ : Nat) < _; omega) | (show (_ : Nat) ≠ _; omega) | (show (_ : Nat) ≤ _; omega) | exact Or.inl rfl | exact Or.inr rfl) only [hG0, hG1, hG2, hF0, hF1, hA0, hA1, xL, xC, icL, Option.bind_some, Nat.le_add_right, Nat.le_refl, if_true, if_false, and_self, true_and, and_true, or_false, false_or, or_true, true_or, and_false, false_and, not_true_eq_false, not_false_eq_true, Nat.reduceAdd, Nat.reduceLeDiff, Nat.reduceLT, Option.toList_some, Option.toList_none, List.cons_append, List.nil_append, callK_ret, callR_ret, callK_thr, decide_true, Bool.true_and, xNr, bI0, bIT, bIF, ne_eq, Classical.not_not, not_false_eq_true, false_or, List.length_nil, icM, ic_lt, ic_eq, le_nl, ↓reduceIte, Nat.lt_irrefl, ri_ws, ri_wn, ri_as, ri_an, upd_s, upd_n, rp_wi, rp_wa, rl_wi, rl_wa, rl_wp, rl_wpa, rl_wl, rp_wl, ri_wl, rp_wd, ri_wd, in_rng, Int32.lt_irrefl, Nat.not_lt_zero, pk_nc, Nat.reduceEqDiff, Nat.succ_ne_self, Nat.one_ne_zero, Nat.add_left_cancel_iff, ri_wpa, ri_wp, QASB_newCapacity_0, QASB_newCapacity_1, ha, b6, shl0, shr0, hs, hn, h5, ic_add]
theorem j_ensure {k c n : Nat} {f : Nat → Nat} (hb : SB n0 G m N k c f) (hn : n ≤ 12) (h : c + n ≤ 142) : ∃ G1 m1 N1 z1 k1, Mt (n0, S0) (d + 3) 294 [.ref (n0 + 290), .int (ic (c + n))] (hp n0 G m, N, z) = some (.inl none, (hp n0 G1 m1, N1, z1)) ∧ SB n0 G1 m1 N1 k1 c f ∧ c + n ≤ cap k1 ∧ (∀ q, q < n0 → G1 q = G q) ∧ eqO m m1 ∧ k ≤ k1 ∧ N1 + k = N + k1 ∧ z1 + zcap k = z + zcap k1 := by
  have k290 : kd 290 = 17 := rfl
  have hb0 := hb
  obtain ⟨g, b1, b2, b3, b4, b5, b6, b7, b8, b9, b10⟩ := hb
  have hc := cap_b b9
  have ha := by_alen (m := m) b1 b3
  by_cases hg : cap k < c + n
  · have hnc := fun N z G => j_newCapacity (n0 := n0) (S0 := S0) (G := G) (m := m) (N := N) (z := z) (d := d) (k := k) (c := c) (q := c + n) (f := f)
    have hnc1 := hnc N z G hb0 hg (by omega)
    obtain ⟨G1, g1, g2, g3⟩ := j_copyOf (n0 := n0) (S0 := S0) (G := G) (m := m) (N := N) (z := z) (d := d + 1) (L2 := 2 * cap k + 2) b1 b3 b4 (by omega) (by omega) b2 b10
    have hs : ic (cap k) < ic (c + n) := by rw [ic_lt (by omega) (by omega)]; exact hg
    have hsub : ic (c + n) - ic (cap k) = ic (c + n - cap k) := ic_sub (by omega)
    have hpos : 0 < c + n - cap k := by omega
    have hN0 : n0 ≤ n0 + 290 := by omega
    refine ⟨G1, wp m 290 0 N, N + 1, z + (2 * cap k + 2), k + 1, ?_, ?_, ?_, ?_, eqO_wp, by omega, by omega, ?_⟩
    · rw [NASB_ensureCapacityInternal]
      simp (disch := first | assumption | (show (_ : Nat) < _; omega) | (show (_ : Nat) ≠ _; omega) | (show (_ : Nat) ≤ _; omega) | exact Or.inl rfl | exact Or.inr rfl) only [hG0, hG1, hG2, hF0, hF1, hA0, hA1, xL, xC, icL, Option.bind_some, Nat.le_add_right, Nat.le_refl, if_true, if_false, and_self, true_and, and_true, or_false, false_or, or_true, true_or, and_false, false_and, not_true_eq_false, not_false_eq_true, Nat.reduceAdd, Nat.reduceLeDiff, Nat.reduceLT, Option.toList_some, Option.toList_none, List.cons_append, List.nil_append, callK_ret, callR_ret, callK_thr, decide_true, Bool.true_and, xNr, bI0, bIT, bIF, ne_eq, Classical.not_not, not_false_eq_true, false_or, List.length_nil, icM, ic_lt, ic_eq, le_nl, ↓reduceIte, Nat.lt_irrefl, ri_ws, ri_wn, ri_as, ri_an, upd_s, upd_n, rp_wi, rp_wa, rl_wi, rl_wa, rl_wp, rl_wpa, rl_wl, rp_wl, ri_wl, rp_wd, ri_wd, in_rng, Int32.lt_irrefl, Nat.not_lt_zero, pk_nc, Nat.reduceEqDiff, Nat.succ_ne_self, Nat.one_ne_zero, Nat.add_left_cancel_iff, ri_wpa, ri_wp, QASB_ensureCapacityInternal_0, ha, b6, shr0, shl0, hsub, hpos, hnc1, g1]
    · have e0 : rp (wp m 290 0 N) 290 0 = N := by rw [rp_wp, if_pos ⟨rfl, rfl⟩]
      refine ⟨fun i => if i < cap k then g i else 0, ?_, ?_, ?_, ?_, ?_, b6, b7, ?_, cap_s b9 (by omega), by omega⟩
      · rw [e0]; exact oA_hi b10
      · rw [e0]; omega
      · rw [e0]; exact g2
      · intro i
        dsimp only
        split
        · exact b4 i
        · omega
      · intro i hi
        dsimp only
        rw [if_pos (by omega)]
        exact b5 i hi
      · show c ≤ 2 * cap k + 2
        omega
    · show c + n ≤ 2 * cap k + 2
      omega
    · intro q hq
      exact g3 q (by omega)
    · show z + (2 * cap k + 2) + zcap k = z + (zcap k + (2 * cap k + 2))
      omega
  · refine ⟨G, m, N, z, k, ?_, hb0, by omega, fun _ _ => rfl, eqO_rfl, Nat.le_refl _, rfl, rfl⟩
    have hle2 := ic_subNp (a := c + n) (b := cap k) (by omega) (by omega)
    rw [NASB_ensureCapacityInternal]
    simp (disch := first | assumption | (show (_ : Nat) < _; omega) | (show (_ : Nat) ≠ _; omega) | (show (_ : Nat) ≤ _; omega) | exact Or.inl rfl | exact Or.inr rfl) only [hG0, hG1, hG2, hF0, hF1, hA0, hA1, xL, xC, icL, Option.bind_some, Nat.le_add_right, Nat.le_refl, if_true, if_false, and_self, true_and, and_true, or_false, false_or, or_true, true_or, and_false, false_and, not_true_eq_false, not_false_eq_true, Nat.reduceAdd, Nat.reduceLeDiff, Nat.reduceLT, Option.toList_some, Option.toList_none, List.cons_append, List.nil_append, callK_ret, callR_ret, callK_thr, decide_true, Bool.true_and, xNr, bI0, bIT, bIF, ne_eq, Classical.not_not, not_false_eq_true, false_or, List.length_nil, icM, ic_lt, ic_eq, le_nl, ↓reduceIte, Nat.lt_irrefl, ri_ws, ri_wn, ri_as, ri_an, upd_s, upd_n, rp_wi, rp_wa, rl_wi, rl_wa, rl_wp, rl_wpa, rl_wl, rp_wl, ri_wl, rp_wd, ri_wd, in_rng, Int32.lt_irrefl, Nat.not_lt_zero, pk_nc, Nat.reduceEqDiff, Nat.succ_ne_self, Nat.one_ne_zero, Nat.add_left_cancel_iff, ri_wpa, ri_wp, QASB_ensureCapacityInternal_0, ha, b6, shr0, hle2]
end C25
