/-! the JDK's StringBuilder: setLength, length, a letter more, charAt; expanded by wip/whole/px.py out of wip/whole/c26.src -/
section C26
variable {n0 N z d : Nat} {S0 : Nat → Value} {G : sH} {m : mm}
theorem j_ensure0 {k c q : Nat} {f : Nat → Nat} (hb : SB n0 G m N k c f) (hq : q ≤ cap k) : Mt (n0, S0) (d + 1) 294 [.ref (n0 + 290), .int (ic q)] (hp n0 G m, N, z) = some (.inl none, (hp n0 G m, N, z)) := by
  have k290 : kd 290 = 17 := rfl
  obtain ⟨g, b1, b2, b3, b4, b5, b6, b7, b8, b9, b10⟩ := hb
  have hc := cap_b b9
  have ha := by_alen (m := m) b1 b3
  have hle2 := ic_subNp hq (by omega)
  rw [NASB_ensureCapacityInternal]
  simp (disch := first | assumption | (show (_ : Nat) < _; omega) | (show (_ : Nat) ≠ _; omega) | (show (_ : Nat) ≤ _; omega) | exact Or.inl rfl | exact Or.inr rfl) only [hG0, hG1, hG2, hF0, hF1, hA0, hA1, xL, xC, icL, Option.bind_some, Nat.le_add_right, Nat.le_refl, if_true, if_false, and_self, true_and, and_true, or_false, false_or, or_true, true_or, and_false, false_and, not_true_eq_false, not_false_eq_true, Nat.reduceAdd, Nat.reduceLeDiff, Nat.reduceLT, Option.toList_some, Option.toList_none, List.cons_append, List.nil_append, callK_ret, callR_ret, callK_thr, decide_true, Bool.true_and, xNr, bI0, bIT, bIF, ne_eq, Classical.not_not, not_false_eq_true, false_or, List.length_nil, icM, ic_lt, ic_eq, le_nl, ↓reduceIte, Nat.lt_irrefl, ri_ws, ri_wn, ri_as, ri_an, upd_s, upd_n, rp_wi, rp_wa, rl_wi, rl_wa, rl_wp, rl_wpa, rl_wl, rp_wl, ri_wl, rp_wd, ri_wd, in_rng, Int32.lt_irrefl, Nat.not_lt_zero, pk_nc, Nat.reduceEqDiff, Nat.succ_ne_self, Nat.one_ne_zero, Nat.add_left_cancel_iff, ri_wpa, ri_wp, QASB_ensureCapacityInternal_0, ha, b6, shr0, hle2]
theorem j_isLat {k c : Nat} {f : Nat → Nat} (hb : SB n0 G m N k c f) (h0 : S0 0 = .int (ic 1)) : Mt (n0, S0) (d + 1) 296 [.ref (n0 + 290)] (hp n0 G m, N, z) = oI n0 G m N z (ic 1) := by
  have k290 : kd 290 = 17 := rfl
  obtain ⟨g, b1, b2, b3, b4, b5, b6, b7, b8, b9, b10⟩ := hb
  rw [NASB_isLatin1]
  simp (disch := first | assumption | (show (_ : Nat) < _; omega) | (show (_ : Nat) ≠ _; omega) | (show (_ : Nat) ≤ _; omega) | exact Or.inl rfl | exact Or.inr rfl) only [hG0, hG1, hG2, hF0, hF1, hA0, hA1, xL, xC, icL, Option.bind_some, Nat.le_add_right, Nat.le_refl, if_true, if_false, and_self, true_and, and_true, or_false, false_or, or_true, true_or, and_false, false_and, not_true_eq_false, not_false_eq_true, Nat.reduceAdd, Nat.reduceLeDiff, Nat.reduceLT, Option.toList_some, Option.toList_none, List.cons_append, List.nil_append, callK_ret, callR_ret, callK_thr, decide_true, Bool.true_and, xNr, bI0, bIT, bIF, ne_eq, Classical.not_not, not_false_eq_true, false_or, List.length_nil, icM, ic_lt, ic_eq, le_nl, ↓reduceIte, Nat.lt_irrefl, ri_ws, ri_wn, ri_as, ri_an, upd_s, upd_n, rp_wi, rp_wa, rl_wi, rl_wa, rl_wp, rl_wpa, rl_wl, rp_wl, ri_wl, rp_wd, ri_wd, in_rng, Int32.lt_irrefl, Nat.not_lt_zero, pk_nc, Nat.reduceEqDiff, Nat.succ_ne_self, Nat.one_ne_zero, Nat.add_left_cancel_iff, ri_wpa, ri_wp, QASB_isLatin1_0, h0, b6]
theorem j_setLength {k c : Nat} {f f2 : Nat → Nat} (hb : SB n0 G m N k c f) : ∃ m1, Mt (n0, S0) (d + 3) 304 [.ref (n0 + 290), .int (ic 0)] (hp n0 G m, N, z) = some (.inl none, (hp n0 G m1, N, z)) ∧ SB n0 G m1 N k 0 f2 ∧ eqO m m1 := by
  have k290 : kd 290 = 17 := rfl
  have he := fun N z => j_ensure0 (n0 := n0) (S0 := S0) (G := G) (m := m) (N := N) (z := z) (d := d) (k := k) (c := c) (f := f) (q := 0)
  have he2 := he N z hb (Nat.zero_le _)
  obtain ⟨g, b1, b2, b3, b4, b5, b6, b7, b8, b9, b10⟩ := hb
  have hc := cap_b b9
  have hc9 : c < 1000 := by omega
  by_cases h : 0 < c
  · refine ⟨wi (wi m 290 2 (ic 1)) 290 3 (ic 0), ?_, ?_, eqO_wi.trans eqO_wi⟩
    · rw [NSB_setLength]
      simp (disch := first | assumption | (show (_ : Nat) < _; omega) | (show (_ : Nat) ≠ _; omega) | (show (_ : Nat) ≤ _; omega) | exact Or.inl rfl | exact Or.inr rfl) only [hG0, hG1, hG2, hF0, hF1, hA0, hA1, xL, xC, icL, Option.bind_some, Nat.le_add_right, Nat.le_refl, if_true, if_false, and_self, true_and, and_true, or_false, false_or, or_true, true_or, and_false, false_and, not_true_eq_false, not_false_eq_true, Nat.reduceAdd, Nat.reduceLeDiff, Nat.reduceLT, Option.toList_some, Option.toList_none, List.cons_append, List.nil_append, callK_ret, callR_ret, callK_thr, decide_true, Bool.true_and, xNr, bI0, bIT, bIF, ne_eq, Classical.not_not, not_false_eq_true, false_or, List.length_nil, icM, ic_lt, ic_eq, le_nl, ↓reduceIte, Nat.lt_irrefl, ri_ws, ri_wn, ri_as, ri_an, upd_s, upd_n, rp_wi, rp_wa, rl_wi, rl_wa, rl_wp, rl_wpa, rl_wl, rp_wl, ri_wl, rp_wd, ri_wd, in_rng, Int32.lt_irrefl, Nat.not_lt_zero, pk_nc, Nat.reduceEqDiff, Nat.succ_ne_self, Nat.one_ne_zero, Nat.add_left_cancel_iff, ri_wpa, ri_wp, QSB_setLength_0, NASB_setLength, QASB_setLength_0, QASB_setLength_1, he2, b7, h]
    · refine ⟨g, b1, b2, b3, b4, fun i hi => absurd hi (Nat.not_lt_zero i), ?_, ?_, Nat.zero_le _, b9, b10⟩
      · rw [ri_ws, upd_n _ _ (by decide), ri_ws, upd_n _ _ (by decide)]
        exact b6
      · rw [ri_ws, upd_s]
  · refine ⟨wi m 290 3 (ic 0), ?_, ?_, eqO_wi⟩
    · rw [NSB_setLength]
      simp (disch := first | assumption | (show (_ : Nat) < _; omega) | (show (_ : Nat) ≠ _; omega) | (show (_ : Nat) ≤ _; omega) | exact Or.inl rfl | exact Or.inr rfl) only [hG0, hG1, hG2, hF0, hF1, hA0, hA1, xL, xC, icL, Option.bind_some, Nat.le_add_right, Nat.le_refl, if_true, if_false, and_self, true_and, and_true, or_false, false_or, or_true, true_or, and_false, false_and, not_true_eq_false, not_false_eq_true, Nat.reduceAdd, Nat.reduceLeDiff, Nat.reduceLT, Option.toList_some, Option.toList_none, List.cons_append, List.nil_append, callK_ret, callR_ret, callK_thr, decide_true, Bool.true_and, xNr, bI0, bIT, bIF, ne_eq, Classical.not_not, not_false_eq_true, false_or, List.length_nil, icM, ic_lt, ic_eq, le_nl, ↓reduceIte, Nat.lt_irrefl, ri_ws, ri_wn, ri_as, ri_an, upd_s, upd_n, rp_wi, rp_wa, rl_wi, rl_wa, rl_wp, rl_wpa, rl_wl, rp_wl, ri_wl, rp_wd, ri_wd, in_rng, Int32.lt_irrefl, Nat.not_lt_zero, pk_nc, Nat.reduceEqDiff, Nat.succ_ne_self, Nat.one_ne_zero, Nat.add_left_cancel_iff, ri_wpa, ri_wp, QSB_setLength_0, NASB_setLength, QASB_setLength_0, QASB_setLength_1, he2, b7, h]
    · refine ⟨g, b1, b2, b3, b4, fun i hi => absurd hi (Nat.not_lt_zero i), ?_, ?_, Nat.zero_le _, b9, b10⟩
      · rw [ri_ws, upd_n _ _ (by decide)]
        exact b6
      · rw [ri_ws, upd_s]
theorem j_sbLength {k c : Nat} {f : Nat → Nat} (hb : SB n0 G m N k c f) : Mt (n0, S0) (d + 2) 307 [.ref (n0 + 290)] (hp n0 G m, N, z) = oI n0 G m N z (ic c) := by
  have k290 : kd 290 = 17 := rfl
  obtain ⟨g, b1, b2, b3, b4, b5, b6, b7, b8, b9, b10⟩ := hb
  rw [NSB_length]
  simp (disch := first | assumption | (show (_ : Nat) < _; omega) | (show (_ : Nat) ≠ _; omega) | (show (_ : Nat) ≤ _; omega) | exact Or.inl rfl | exact Or.inr rfl) only [hG0, hG1, hG2, hF0, hF1, hA0, hA1, xL, xC, icL, Option.bind_some, Nat.le_add_right, Nat.le_refl, if_true, if_false, and_self, true_and, and_true, or_false, false_or, or_true, true_or, and_false, false_and, not_true_eq_false, not_false_eq_true, Nat.reduceAdd, Nat.reduceLeDiff, Nat.reduceLT, Option.toList_some, Option.toList_none, List.cons_append, List.nil_append, callK_ret, callR_ret, callK_thr, decide_true, Bool.true_and, xNr, bI0, bIT, bIF, ne_eq, Classical.not_not, not_false_eq_true, false_or, List.length_nil, icM, ic_lt, ic_eq, le_nl, ↓reduceIte, Nat.lt_irrefl, ri_ws, ri_wn, ri_as, ri_an, upd_s, upd_n, rp_wi, rp_wa, rl_wi, rl_wa, rl_wp, rl_wpa, rl_wl, rp_wl, ri_wl, rp_wd, ri_wd, in_rng, Int32.lt_irrefl, Nat.not_lt_zero, pk_nc, Nat.reduceEqDiff, Nat.succ_ne_self, Nat.one_ne_zero, Nat.add_left_cancel_iff, ri_wpa, ri_wp, QSB_length_0, NASB_length, QASB_length_0, b7]
theorem j_sbCharAt {k c i : Nat} {f : Nat → Nat} (hb : SB n0 G m N k c f) (hi : i < c) (h6 : S0 6 = .null ∨ ∃ q, S0 6 = .ref q) : Mt (n0, S0) (d + 4) 309 [.ref (n0 + 290), .int (ic i)] (hp n0 G m, N, z) = oI n0 G m N z (ic (f i)) := by
  have k290 : kd 290 = 17 := rfl
  obtain ⟨g, b1, b2, b3, b4, b5, b6, b7, b8, b9, b10⟩ := hb
  have hc := cap_b b9
  have ha := by_alen (m := m) b1 b3
  have hld := by_ld (m := m) (i := i) b1 b3 (by omega) (by omega)
  rw [b5 i hi] at hld
  have hnar : narrow .char (.int (ic (f i))) = .int (ic (f i)) := (pk_charN (q := f i) (by rw [← b5 i hi]; have := b4 i; omega)).1
  have hch : ((ic (f i) &&& 255).toUInt32 % 65536).toInt32 = ic (f i) := chr_and (by rw [← b5 i hi]; exact b4 i)
  have hck := fun (σ : sS) => j_checkIndex (n0 := n0) (S0 := S0) (d := d) (σ := σ) hi (show c < 1000 by omega) h6
  have hmin : (if cap k < c then ic (cap k) else ic c) = ic c := if_neg (by omega)
  rw [NSB_charAt]
  simp (disch := first | assumption | (show (_ : Nat) < _; omega) | (show (_ : Nat) ≠ _; omega) | (show (_ : Nat) ≤ _; omega) | exact Or.inl rfl | exact Or.inr rfl) only [hG0, hG1, hG2, hF0, hF1, hA0, hA1, xL, xC, icL, Option.bind_some, Nat.le_add_right, Nat.le_refl, if_true, if_false, and_self, true_and, and_true, or_false, false_or, or_true, true_or, and_false, false_and, not_true_eq_false, not_false_eq_true, Nat.reduceAdd, Nat.reduceLeDiff, Nat.reduceLT, Option.toList_some, Option.toList_none, List.cons_append, List.nil_append, callK_ret, callR_ret, callK_thr, decide_true, Bool.true_and, xNr, bI0, bIT, bIF, ne_eq, Classical.not_not, not_false_eq_true, false_or, List.length_nil, icM, ic_lt, ic_eq, le_nl, ↓reduceIte, Nat.lt_irrefl, ri_ws, ri_wn, ri_as, ri_an, upd_s, upd_n, rp_wi, rp_wa, rl_wi, rl_wa, rl_wp, rl_wpa, rl_wl, rp_wl, ri_wl, rp_wd, ri_wd, in_rng, Int32.lt_irrefl, Nat.not_lt_zero, pk_nc, Nat.reduceEqDiff, Nat.succ_ne_self, Nat.one_ne_zero, Nat.add_left_cancel_iff, ri_wpa, ri_wp, QSB_charAt_0, NASB_charAt, QASB_charAt_0, QASB_charAt_1, ha, b6, b7, shr0, hmin, hck, hld, hch, hnar]
theorem SB_put {k c x : Nat} {f g : Nat → Nat} (b1 : oA n0 (rp m 290 0)) (b2 : rp m 290 0 < N) (b4 : ∀ i, g i < 128) (b5 : ∀ i, i < c → g i = f i) (b6 : ri m 290 1 = ic 0) (b9 : k ≤ 3) (b10 : n0 + 305 ≤ N) (hc : c + 1 ≤ cap k) (hx : x < 128) : SB n0 (hset G (rp m 290 0) (byA (cap k) (updN g c x))) (wi m 290 3 (ic (c + 1))) N k (c + 1) (updN f c x) := by
  refine ⟨updN g c x, b1, b2, hset_s, ?_, ?_, ?_, ?_, hc, b9, b10⟩
  · intro i
    unfold updN
    split
    · exact hx
    · exact b4 i
  · intro i hi
    unfold updN
    split
    · rfl
    · exact b5 i (by omega)
  · rw [ri_ws, upd_n _ _ (by decide)]
    exact b6
  · rw [ri_ws, upd_s]
theorem j_appendChar {k c x : Nat} {f : Nat → Nat} (hb : SB n0 G m N k c f) (hx : x < 128) (h142 : c + 1 ≤ 142) (h0 : S0 0 = .int (ic 1)) : AP n0 G m N z k (Mt (n0, S0) (d + 5) 308 [.ref (n0 + 290), .int (ic x)] (hp n0 G m, N, z)) (some (.ref (n0 + 290))) (c + 1) (updN f c x) := by
  have k290 : kd 290 = 17 := rfl
  obtain ⟨G1, m1, N1, z1, k1, e1, hb1, hc1, e2, e3, e4, e5, e6⟩ := j_ensure (n0 := n0) (S0 := S0) (z := z) (d := d) hb (n := 1) (by omega) h142
  have b7a : ri m 290 3 = ic c := by obtain ⟨g, b⟩ := hb; exact b.2.2.2.2.2.2.1
  have hlat := j_isLat (n0 := n0) (S0 := S0) (N := N1) (z := z1) (d := d + 2) hb1 h0
  obtain ⟨g, b1, b2, b3, b4, b5, b6, b7, b8, b9, b10⟩ := hb1
  have hc := cap_b b9
  have hcan : ∀ (d : Nat) (σ : sS), Mt (n0, S0) (d + 1) 316 [.int (ic x)] σ = some (.inl (some (.int (ic 1))), σ) := by
    intro d σ
    have h9 : ¬ (255 : Int32) < ic x := by
      rw [Int32.lt_iff_toInt_lt, ic_toInt (by omega), show (255 : Int32).toInt = 255 from by decide]
      omega
    rw [NLatin1_canEncode]
    simp (disch := first | assumption | (show (_ : Nat) < _; omega) | (show (_ : Nat) ≠ _; omega) | (show (_ : Nat) ≤ _; omega) | exact Or.inl rfl | exact Or.inr rfl) only [hG0, hG1, hG2, hF0, hF1, hA0, hA1, xL, xC, icL, Option.bind_some, Nat.le_add_right, Nat.le_refl, if_true, if_false, and_self, true_and, and_true, or_false, false_or, or_true, true_or, and_false, false_and, not_true_eq_false, not_false_eq_true, Nat.reduceAdd, Nat.reduceLeDiff, Nat.reduceLT, Option.toList_some, Option.toList_none, List.cons_append, List.nil_append, callK_ret, callR_ret, callK_thr, decide_true, Bool.true_and, xNr, bI0, bIT, bIF, ne_eq, Classical.not_not, not_false_eq_true, false_or, List.length_nil, icM, ic_lt, ic_eq, le_nl, ↓reduceIte, Nat.lt_irrefl, ri_ws, ri_wn, ri_as, ri_an, upd_s, upd_n, rp_wi, rp_wa, rl_wi, rl_wa, rl_wp, rl_wpa, rl_wl, rp_wl, ri_wl, rp_wd, ri_wd, in_rng, Int32.lt_irrefl, Nat.not_lt_zero, pk_nc, Nat.reduceEqDiff, Nat.succ_ne_self, Nat.one_ne_zero, Nat.add_left_cancel_iff, ri_wpa, ri_wp, QLatin1_canEncode_0, h9]
  have hst := by_st (m := wi m1 290 3 (ic (c + 1))) (x := x) (i := c) b1 b3 (by omega) (by omega) hx
  have hN0 := b1.1
  refine ⟨hset G1 (rp m1 290 0) (byA (cap k1) (updN g c x)), wi m1 290 3 (ic (c + 1)), N1, z1, k1, ?_, SB_put b1 b2 b4 b5 b6 b9 b10 hc1 hx, ?_, e3.trans eqO_wi, e4, e5, e6⟩
  · rw [NSB_append_2]
    simp (disch := first | assumption | (show (_ : Nat) < _; omega) | (show (_ : Nat) ≠ _; omega) | (show (_ : Nat) ≤ _; omega) | exact Or.inl rfl | exact Or.inr rfl) only [hG0, hG1, hG2, hF0, hF1, hA0, hA1, xL, xC, icL, Option.bind_some, Nat.le_add_right, Nat.le_refl, if_true, if_false, and_self, true_and, and_true, or_false, false_or, or_true, true_or, and_false, false_and, not_true_eq_false, not_false_eq_true, Nat.reduceAdd, Nat.reduceLeDiff, Nat.reduceLT, Option.toList_some, Option.toList_none, List.cons_append, List.nil_append, callK_ret, callR_ret, callK_thr, decide_true, Bool.true_and, xNr, bI0, bIT, bIF, ne_eq, Classical.not_not, not_false_eq_true, false_or, List.length_nil, icM, ic_lt, ic_eq, le_nl, ↓reduceIte, Nat.lt_irrefl, ri_ws, ri_wn, ri_as, ri_an, upd_s, upd_n, rp_wi, rp_wa, rl_wi, rl_wa, rl_wp, rl_wpa, rl_wl, rp_wl, ri_wl, rp_wd, ri_wd, in_rng, Int32.lt_irrefl, Nat.not_lt_zero, pk_nc, Nat.reduceEqDiff, Nat.succ_ne_self, Nat.one_ne_zero, Nat.add_left_cancel_iff, ri_wpa, ri_wp, QSB_append_2_0, NASB_append_2, QASB_append_2_0, QASB_append_2_1, b7a, ic_add, e1, hlat, hcan, b7, (byte_id hx).1, hst, hN0]
  · intro q hq
    rw [hset_n (by omega)]
    exact e2 q hq
end C26
