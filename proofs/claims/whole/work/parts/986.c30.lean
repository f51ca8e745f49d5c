/-! the JDK's StringBuilder: numbers and texts appended; expanded by wip/whole/px.py out of wip/whole/c30.src -/
section C30
variable {n0 N z d : Nat} {S0 : Nat → Value} {G G1 : sH} {m : mm}
theorem isTab.mono {D : Nat} {h : Nat → Nat} (e : ∀ q, q < n0 → G1 q = G q) (ht : isTab n0 G D h) : isTab n0 G1 D h := by
  refine ⟨ht.1, fun r hr => ?_⟩
  have := ht.2 r hr
  unfold aldI at this ⊢
  rw [e D ht.1]
  exact this
theorem isDig.mono (e : ∀ q, q < n0 → G1 q = G q) (hD : isDig n0 S0 G) : isDig n0 S0 G1 := by
  obtain ⟨D1, D2, s1, s2, t1, t2⟩ := hD
  exact ⟨D1, D2, s1, s2, t1.mono e, t2.mono e⟩
theorem j_appendInt {k c n : Nat} {f : Nat → Nat} (hb : SB n0 G m N k c f) (hn : n < 100000) (h142 : c + dgn n ≤ 142) (h0 : S0 0 = .int (ic 1)) (hD : isDig n0 S0 G) : AP n0 G m N z k (Mt (n0, S0) (d + 5) 306 [.ref (n0 + 290), .int (ic n)] (hp n0 G m, N, z)) (some (.ref (n0 + 290))) (c + dgn n) (wrN f c n) := by
  have k290 : kd 290 = 17 := rfl
  have hdg := dgn_b n
  obtain ⟨G1, m1, N1, z1, k1, e1, hb1, hc1, e2, e3, e4, e5, e6⟩ := j_ensure (n0 := n0) (S0 := S0) (z := z) (d := d) hb (n := dgn n) (by omega) h142
  have b7a : ri m 290 3 = ic c := by obtain ⟨g, b⟩ := hb; exact b.2.2.2.2.2.2.1
  have hlat := j_isLat (n0 := n0) (S0 := S0) (N := N1) (z := z1) (d := d + 2) hb1 h0
  obtain ⟨g, b1, b2, b3, b4, b5, b6, b7, b8, b9, b10⟩ := hb1
  have hc := cap_b b9
  have hss := fun d σ => j_stringSize (n0 := n0) (S0 := S0) (d := d) hn σ
  obtain ⟨g1, hgc, q1, q2, q3⟩ := j_getChars (n0 := n0) (S0 := S0) (m := m1) (N := N1) (z := z1) (d := d + 2) (hD.mono e2) b1 b3 b4 (by omega) hn hc1
  have hN0 := b1.1
  refine ⟨hset G1 (rp m1 290 0) (byA (cap k1) g1), wi m1 290 3 (ic (c + dgn n)), N1, z1, k1, ?_, ⟨g1, b1, b2, hset_s, q3, ?_, ?_, ?_, hc1, b9, b10⟩, ?_, e3.trans eqO_wi, e4, e5, e6⟩
  · rw [NSB_append_1]
    simp (disch := first | assumption | (show (_ : Nat) < _; omega) | (show (_ : Nat) ≠ _; omega) | (show (_ : Nat) ≤ _; omega) | exact Or.inl rfl | exact Or.inr rfl) only [hG0, hG1, hG2, hF0, hF1, hA0, hA1, xL, xC, icL, Option.bind_some, Nat.le_add_right, Nat.le_refl, if_true, if_false, and_self, true_and, and_true, or_false, false_or, or_true, true_or, and_false, false_and, not_true_eq_false, not_false_eq_true, Nat.reduceAdd, Nat.reduceLeDiff, Nat.reduceLT, Option.toList_some, Option.toList_none, List.cons_append, List.nil_append, callK_ret, callR_ret, callK_thr, decide_true, Bool.true_and, xNr, bI0, bIT, bIF, ne_eq, Classical.not_not, not_false_eq_true, false_or, List.length_nil, icM, ic_lt, ic_eq, le_nl, ↓reduceIte, Nat.lt_irrefl, ri_ws, ri_wn, ri_as, ri_an, upd_s, upd_n, rp_wi, rp_wa, rl_wi, rl_wa, rl_wp, rl_wpa, rl_wl, rp_wl, ri_wl, rp_wd, ri_wd, in_rng, Int32.lt_irrefl, Nat.not_lt_zero, pk_nc, Nat.reduceEqDiff, Nat.succ_ne_self, Nat.one_ne_zero, Nat.add_left_cancel_iff, ri_wpa, ri_wp, QSB_append_1_0, NASB_append_1, QASB_append_1_0, QASB_append_1_1, b7a, hss, ic_add, e1, hlat, hgc]
  · intro i hi
    unfold wrN
    by_cases h : c ≤ i
    · rw [if_pos ⟨h, hi⟩]
      exact q2 i h hi
    · rw [if_neg (fun z => h z.1), q1 i (by omega)]
      exact b5 i (by omega)
  · rw [ri_ws, upd_n _ _ (by decide)]
    exact b6
  · rw [ri_ws, upd_s]
  · intro q hq
    rw [hset_n (by omega)]
    exact e2 q hq
/-- the text " t" -/
def isT (n0 : Nat) (S0 : Nat → Value) (G : sH) : Prop := ∃ s b f, S0 7 = .ref s ∧ isStr n0 G s b 2 f ∧ f 0 = 32 ∧ f 1 = 116 ∧ G b = some (byA 2 f)
theorem isStr.mono {s b len : Nat} {f : Nat → Nat} (e : ∀ q, q < n0 → G1 q = G q) (h : isStr n0 G s b len f) : isStr n0 G1 s b len f := by
  unfold isStr gf isOb alen aldI at *
  rw [e s h.1, e b h.2.1]
  exact h
theorem isT.mono (e : ∀ q, q < n0 → G1 q = G q) (hT : isT n0 S0 G) : isT n0 S0 G1 := by
  obtain ⟨s, b, f, h1, h2, h3, h4, h5⟩ := hT
  exact ⟨s, b, f, h1, h2.mono e, h3, h4, (e b h2.2.1).trans h5⟩
theorem by_cpyS {v v2 L L2 : Nat} {g x : Nat → Nat} (hs : hp n0 G m v = some (byA L g)) (hL : L < 1000) (hg : ∀ i, g i < 128) (h2 : oA n0 v2) (hv2 : G v2 = some (byA L2 x)) (hne : v ≠ v2) {n : Nat} (hn : n ≤ L) {p : Nat} (hp2 : p + n ≤ L2) (hL2 : L2 < 1000) : acpy (hp n0 G m) v (ic 0) v2 (ic p) (ic n) = some (hp n0 (hset G v2 (byA L2 (fun i => if p ≤ i ∧ i < p + n then g (i - p) else x i))) m) := by
  unfold acpy
  rw [hs, hp_out h2.out, hv2]
  unfold byA
  dsimp only
  have e0 : ¬ ic 0 < 0 := by decide
  have en : ¬ ic n < 0 := ic_nn (by omega)
  have ep : ¬ ic p < 0 := ic_nn (by omega)
  rw [ic_nat (show n < 2147483648 by omega), ic_nat (show p < 2147483648 by omega), ic_nat (show 0 < 2147483648 by omega), if_pos]
  · rw [hset_out h2.out]
    have hf : va_cpy (fun i => ic (g i)) (fun i => ic (x i)) 0 p n = fun i => ic (if p ≤ i ∧ i < p + n then g (i - p) else x i) := by
      funext q
      unfold va_cpy
      by_cases hq : p ≤ q ∧ q < p + n
      · rw [if_pos hq, if_pos hq, Nat.zero_add]
      · rw [if_neg hq, if_neg hq]
    rw [hf]
  · refine ⟨rfl, rfl, hne, e0, ep, en, by omega, by omega, ?_⟩
    rw [List.all_eq_true]
    intro i _
    exact (byte_id (hg _)).2.2
theorem j_appendT {k c : Nat} {f : Nat → Nat} (hb : SB n0 G m N k c f) (h142 : c + 2 ≤ 142) (h0 : S0 0 = .int (ic 1)) (hT : isT n0 S0 G) : ∃ s, S0 7 = .ref s ∧ AP n0 G m N z k (Mt (n0, S0) (d + 7) 305 [.ref (n0 + 290), .ref s] (hp n0 G m, N, z)) (some (.ref (n0 + 290))) (c + 2) (updN (updN f c 32) (c + 1) 116) := by
  have k290 : kd 290 = 17 := rfl
  obtain ⟨G1, m1, N1, z1, k1, e1, hb1, hc1, e2, e3, e4, e5, e6⟩ := j_ensure (n0 := n0) (S0 := S0) (z := z) (d := d + 2) hb (n := 2) (by omega) h142
  have b7a : ri m 290 3 = ic c := by obtain ⟨g, b⟩ := hb; exact b.2.2.2.2.2.2.1
  have hT1 := hT.mono e2
  obtain ⟨s, b, t, t1, t2, t3, t4, t5⟩ := hT1
  have hT0 := hT
  obtain ⟨s', b', t', t1', t2', _, _, _⟩ := hT0
  obtain rfl : s' = s := by rw [t1] at t1'; cases t1'; rfl
  have hlen := j_length (n0 := n0) (S0 := S0) (m := m) (N := N) (z := z) (d := d + 3) t2' h0
  obtain ⟨g, b1, b2, b3, b4, b5, b6, b7, b8, b9, b10⟩ := hb1
  have hc := cap_b b9
  have hcod := fun (d : Nat) => j_coder (n0 := n0) (S0 := S0) (m := m1) (N := N1) (z := z1) (d := d) t2 h0
  have t2a := t2
  obtain ⟨g1, g2, g3, g4, g5, g6, g7, g8, g9⟩ := t2a
  have g7' : isOb G s' 10 = true := t2'.2.2.2.2.2.2.1
  have hcp := by_cpyS (m := m1) ((hp_lt g2).trans t5) (by omega) g4 b1 b3 (by have := b1.1; omega) (Nat.le_refl 2) (p := c) hc1 (by omega)
  have hN0 := b1.1
  refine ⟨s', t1, hset G1 (rp m1 290 0) (byA (cap k1) (fun i => if c ≤ i ∧ i < c + 2 then t (i - c) else g i)), wi m1 290 3 (ic (c + 2)), N1, z1, k1, ?_, ⟨_, b1, b2, hset_s, ?_, ?_, ?_, ?_, hc1, b9, b10⟩, ?_, e3.trans eqO_wi, e4, e5, e6⟩
  · rw [NSB_append]
    simp (disch := first | assumption | (show (_ : Nat) < _; omega) | (show (_ : Nat) ≠ _; omega) | (show (_ : Nat) ≤ _; omega) | exact Or.inl rfl | exact Or.inr rfl) only [hG0, hG1, hG2, hF0, hF1, hA0, hA1, xL, xC, icL, Option.bind_some, Nat.le_add_right, Nat.le_refl, if_true, if_false, and_self, true_and, and_true, or_false, false_or, or_true, true_or, and_false, false_and, not_true_eq_false, not_false_eq_true, Nat.reduceAdd, Nat.reduceLeDiff, Nat.reduceLT, Option.toList_some, Option.toList_none, List.cons_append, List.nil_append, callK_ret, callR_ret, callK_thr, decide_true, Bool.true_and, xNr, bI0, bIT, bIF, ne_eq, Classical.not_not, not_false_eq_true, false_or, List.length_nil, icM, ic_lt, ic_eq, le_nl, ↓reduceIte, Nat.lt_irrefl, ri_ws, ri_wn, ri_as, ri_an, upd_s, upd_n, rp_wi, rp_wa, rl_wi, rl_wa, rl_wp, rl_wpa, rl_wl, rp_wl, ri_wl, rp_wd, ri_wd, in_rng, Int32.lt_irrefl, Nat.not_lt_zero, pk_nc, Nat.reduceEqDiff, Nat.succ_ne_self, Nat.one_ne_zero, Nat.add_left_cancel_iff, ri_wpa, ri_wp, QSB_append_0, NASB_append, QASB_append_0, QASB_append_1, isOb_lt, g3, g7', b7a, hlen, ic_add, e1, b7, NASB_putStringAt, QASB_putStringAt_0, NASB_inflateIfNeededFor, QASB_inflateIfNeededFor_0, h0, b6, g1, g7, hcod, NString_getBytes, QString_getBytes_0, QString_getBytes_1, gf_lt, g5, alen_lt, g8, shl0, hcp, hN0]
  · intro i
    split
    · exact g4 _
    · exact b4 i
  · intro i hi
    unfold updN
    by_cases h1 : i = c + 1
    · subst h1
      rw [if_pos rfl, if_pos ⟨by omega, by omega⟩, show c + 1 - c = 1 by omega]
      exact t4
    · by_cases h2 : i = c
      · subst h2
        rw [if_neg h1, if_pos rfl, if_pos ⟨by omega, by omega⟩, show i - i = 0 by omega]
        exact t3
      · rw [if_neg h1, if_neg h2, if_neg (by omega)]
        exact b5 i (by omega)
  · rw [ri_ws, upd_n _ _ (by decide)]
    exact b6
  · rw [ri_ws, upd_s]
  · intro q hq
    rw [hset_n (by omega)]
    exact e2 q hq
end C30
