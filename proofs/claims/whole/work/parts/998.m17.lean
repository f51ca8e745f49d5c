/-! the reference's writePlan and charAt; expanded by wip/whole/px.py out of wip/whole/m17.src -/
section M17
variable {n0 N z d : Nat} {S0 : Nat → Value} {G : sH} {m : mm}
theorem mp_loop {cnt : Nat} (h10 : ri m 292 10 = ic cnt) (h6 : cnt ≤ 6) {V : Nat → Nat} (hV : ∀ i, i < cnt → ri m 298 i = ic (V i) ∧ V i < 12) {x y c : Int32} {O F : Nat → Nat} (hO : ∀ i, i < cnt → ri m 293 (42 + 8 * V i + 0) = ic (O i) ∧ O i < 100000) (hF : ∀ i, i < cnt → (mlF (fun i => rwJ (ri m 293) (V i)) x y c (i + 1)).2.2.1 = ic (F i) ∧ F i < 100000) {l1 : Int32} {s : tx} (hs : s.1 = 0) : ∀ t, t ≤ cnt → ∃ l6, Rx (n0, S0) (d + 4) 224 48 [some (.ref (n0 + 292)), some (.int l1), some (.int c), some (.int x), some (.int y), some (.int (ic 0)), none] [] (hp n0 G (oM m s), N, z) = Rx (n0, S0) (d + 4) 224 48 [some (.ref (n0 + 292)), some (.int l1), some (.int ((mlF (fun i => rwJ (ri m 293) (V i)) x y c t).2.2.1)), some (.int ((mlF (fun i => rwJ (ri m 293) (V i)) x y c t).1)), some (.int ((mlF (fun i => rwJ (ri m 293) (V i)) x y c t).2.1)), some (.int (ic t)), l6] [] (hp n0 G (oM m (plF O F s t)), N, z) := by
  have k292 : kd 292 = 18 := rfl
  have k298 : kd 298 = 5 := rfl
  intro t
  induction t with
  | zero => intro _; exact ⟨none, rfl⟩
  | succ t ih =>
    intro ht
    obtain ⟨l6, e1⟩ := ih (by omega)
    have ht6 : t < cnt := by omega
    obtain ⟨v1, v2⟩ := hV t ht6
    obtain ⟨o1, o2⟩ := hO t ht6
    obtain ⟨f1, f2⟩ := hF t ht6
    have hle := plF_le O F s t
    have hS : plF O F s (t + 1) = wI (wC (wI (if 0 < t then wC (plF O F s t) 62 else plF O F s t) (O t)) 58) (F t) := rfl
    rw [hS]
    refine ⟨some (.int (ic (V t))), e1.trans ?_⟩
    rw [mlF] at f1 ⊢
    generalize mlF (fun i => rwJ (ri m 293) (V i)) x y c t = T at f1 ⊢
    obtain ⟨x1, y1, c1, q1⟩ := T
    dsimp only at f1 ⊢
    unfold rwJ at f1 ⊢
    rw [f1]
    generalize plF O F s t = s1 at *
    have do1 := dgn_b (O t)
    have df1 := dgn_b (F t)
    have r : ∀ s, ri (oM m s) 293 = ri m 293 := fun s => oM_o (by decide) (by decide)
    have r8 : ∀ s, ri (oM m s) 298 = ri m 298 := fun s => oM_o (by decide) (by decide)
    have r10 : ∀ s, ri (oM m s) 292 10 = ic cnt := fun s => by rw [ri_an _ _ (by decide), ri_ws, upd_n _ _ (by decide)]; exact h10
    have j0 := fun (s : tx) d N z => m_j (n0 := n0) (S0 := S0) (G := G) (d := d) (N := N) (z := z) (m := oM m s) (a := V t) (o := 0) (by omega)
    have j1 := fun (s : tx) d N z => m_j (n0 := n0) (S0 := S0) (G := G) (d := d) (N := N) (z := z) (m := oM m s) (a := V t) (o := 1) (by omega)
    have j2 := fun (s : tx) d N z => m_j (n0 := n0) (S0 := S0) (G := G) (d := d) (N := N) (z := z) (m := oM m s) (a := V t) (o := 2) (by omega)
    have j5 := fun (s : tx) d N z => m_j (n0 := n0) (S0 := S0) (G := G) (d := d) (N := N) (z := z) (m := oM m s) (a := V t) (o := 5) (by omega)
    have k1 := j1 s1
    have k2 := j2 s1
    have k5 := j5 s1
    rw [r] at k1 k2 k5
    generalize ri m 293 (42 + 8 * V t + 1) = a1 at *
    generalize ri m 293 (42 + 8 * V t + 2) = a2 at *
    generalize ri m 293 (42 + 8 * V t + 5) = a5 at *
    have g10 := r10 s1
    have g8 := r8 s1
    have wn := fun (s : tx) (v : Nat) (h1 : v < 100000) (h2 : s.1 + dgn v ≤ 100) => m_writeNumber (n0 := n0) (S0 := S0) (G := G) (m := m) (N := N) (z := z) (d := d + 2) (s := s) (v := v) h1 h2
    have wr := fun (s : tx) (v : Nat) (h1 : s.1 < 100) => m_write (n0 := n0) (S0 := S0) (G := G) (m := m) (N := N) (z := z) (d := d + 3) (s := s) (x := v) h1
    by_cases hp : 0 < t
    · rw [if_pos hp]
      have w1 := wr s1 62 (by omega)
      have k0 := j0 (wC s1 62)
      rw [r, o1] at k0
      have w2 := wn (wC s1 62) (O t) o2 (by show s1.1 + 1 + dgn (O t) ≤ 100; omega)
      have w3 := wr (wI (wC s1 62) (O t)) 58 (by show s1.1 + 1 + dgn (O t) < 100; omega)
      have w4 := wn (wC (wI (wC s1 62) (O t)) 58) (F t) f2 (by show s1.1 + 1 + dgn (O t) + 1 + dgn (F t) ≤ 100; omega)
      clear r r8 r10 wn wr j0 j1 j2 j5
      generalize oM m (wI (wC (wI (wC s1 62) (O t)) 58) (F t)) = M5 at *
      generalize oM m (wC (wI (wC s1 62) (O t)) 58) = M4 at *
      generalize oM m (wI (wC s1 62) (O t)) = M3 at *
      generalize oM m (wC s1 62) = M2 at *
      generalize oM m s1 = M1 at *
      rw [HModel_writePlan_48]
      simp (disch := first | assumption | (show (_ : Nat) < _; omega) | (show (_ : Nat) ≠ _; omega) | (show (_ : Nat) ≤ _; omega) | exact Or.inl rfl | exact Or.inr rfl) only [hG0, hG1, hG2, hF0, hF1, hA0, hA1, xL, xC, icL, Option.bind_some, Nat.le_add_right, Nat.le_refl, if_true, if_false, and_self, true_and, and_true, or_false, false_or, or_true, true_or, and_false, false_and, not_true_eq_false, not_false_eq_true, Nat.reduceAdd, Nat.reduceLeDiff, Nat.reduceLT, Option.toList_some, Option.toList_none, List.cons_append, List.nil_append, callK_ret, callR_ret, callK_thr, decide_true, Bool.true_and, xNr, bI0, bIT, bIF, ne_eq, Classical.not_not, not_false_eq_true, false_or, List.length_nil, icM, ic_lt, ic_eq, le_nl, ↓reduceIte, Nat.lt_irrefl, ri_ws, ri_wn, ri_as, ri_an, upd_s, upd_n, rp_wi, rp_wa, rl_wi, rl_wa, rl_wp, rl_wpa, rl_wl, rp_wl, ri_wl, rp_wd, ri_wd, in_rng, Int32.lt_irrefl, Nat.not_lt_zero, pk_nc, Nat.reduceEqDiff, Nat.succ_ne_self, Nat.one_ne_zero, Nat.add_left_cancel_iff, ri_wpa, ri_wp, QModel_writePlan_0, QModel_writePlan_1, QModel_writePlan_2, QModel_writePlan_3, g10, ht6, g8, v1, k1, k2, k5, m_apart, f1, hp, w1, k0, w2, w3, w4, ic_add]
    · rw [if_neg hp]
      have k0 := j0 s1
      rw [r, o1] at k0
      have w2 := wn s1 (O t) o2 (by omega)
      have w3 := wr (wI s1 (O t)) 58 (by show s1.1 + dgn (O t) < 100; omega)
      have w4 := wn (wC (wI s1 (O t)) 58) (F t) f2 (by show s1.1 + dgn (O t) + 1 + dgn (F t) ≤ 100; omega)
      clear r r8 r10 wn wr j0 j1 j2 j5
      generalize oM m (wI (wC (wI s1 (O t)) 58) (F t)) = M5 at *
      generalize oM m (wC (wI s1 (O t)) 58) = M4 at *
      generalize oM m (wI s1 (O t)) = M3 at *
      generalize oM m s1 = M1 at *
      rw [HModel_writePlan_48]
      simp (disch := first | assumption | (show (_ : Nat) < _; omega) | (show (_ : Nat) ≠ _; omega) | (show (_ : Nat) ≤ _; omega) | exact Or.inl rfl | exact Or.inr rfl) only [hG0, hG1, hG2, hF0, hF1, hA0, hA1, xL, xC, icL, Option.bind_some, Nat.le_add_right, Nat.le_refl, if_true, if_false, and_self, true_and, and_true, or_false, false_or, or_true, true_or, and_false, false_and, not_true_eq_false, not_false_eq_true, Nat.reduceAdd, Nat.reduceLeDiff, Nat.reduceLT, Option.toList_some, Option.toList_none, List.cons_append, List.nil_append, callK_ret, callR_ret, callK_thr, decide_true, Bool.true_and, xNr, bI0, bIT, bIF, ne_eq, Classical.not_not, not_false_eq_true, false_or, List.length_nil, icM, ic_lt, ic_eq, le_nl, ↓reduceIte, Nat.lt_irrefl, ri_ws, ri_wn, ri_as, ri_an, upd_s, upd_n, rp_wi, rp_wa, rl_wi, rl_wa, rl_wp, rl_wpa, rl_wl, rp_wl, ri_wl, rp_wd, ri_wd, in_rng, Int32.lt_irrefl, Nat.not_lt_zero, pk_nc, Nat.reduceEqDiff, Nat.succ_ne_self, Nat.one_ne_zero, Nat.add_left_cancel_iff, ri_wpa, ri_wp, QModel_writePlan_0, QModel_writePlan_1, QModel_writePlan_2, QModel_writePlan_3, g10, ht6, g8, v1, k1, k2, k5, m_apart, f1, hp, k0, w2, w3, w4, ic_add]
theorem m_charAt {c : Nat} {f : Nat → Nat} (h14 : ri m 292 14 = ic c) (hc : c ≤ 100) (hf : ri m 299 = fun i => ic (f i)) (h7 : ∀ i, i < c → f i < 128) {i : Int32} : Mt (n0, S0) (d + 2) 225 [.ref (n0 + 292), .int i] (hp n0 G m, N, z) = if ¬ i < ic 0 ∧ i < ic c then oI n0 G (tM m 0) N z (ic (f i.toNatClampNeg)) else oI n0 G (tM m 1) N z (ic 32) := by
  have k292 : kd 292 = 18 := rfl
  have k299 : kd 299 = 21 := rfl
  have htop := in_top (i := i) (c := c) (by omega)
  rw [NModel_charAt]
  by_cases hi : ¬ i < ic 0 ∧ i < ic c
  · obtain ⟨v, hv, rfl⟩ := rng_of (by omega) hi
    rw [if_pos hi, ic_nat (by omega)]
    have hb1 : bI (¬ ic v < ic 0 ∧ ¬ ic c - ic 1 < ic v) = ic 1 := if_pos (by rw [htop]; exact hi)
    have hin := fun (σ : sS) => m_in (n0 := n0) (S0 := S0) (d := d) (σ := σ) (v := ic v) (lo := ic 0) (hi := ic c - ic 1)
    rw [hb1] at hin
    have hv1 : v < 100 := by omega
    have hch : ((ic (f v)).toUInt32 % 65536).toInt32 = ic (f v) := by
      have : ∀ c : Fin 128, ((ic c.val).toUInt32 % 65536).toInt32 = ic c.val := by decide +kernel
      exact this ⟨f v, h7 v hv⟩
    have hnar : narrow .char (.int (ic (f v))) = .int (ic (f v)) := (pk_charN (q := f v) (by have := h7 v hv; omega)).1
    have h299 : ri (tM m 0) 299 = fun i => ic (f i) := by rw [ri_wn _ _ _ (by decide)]; exact hf
    simp (disch := first | assumption | (show (_ : Nat) < _; omega) | (show (_ : Nat) ≠ _; omega) | (show (_ : Nat) ≤ _; omega) | exact Or.inl rfl | exact Or.inr rfl) only [hG0, hG1, hG2, hF0, hF1, hA0, hA1, xL, xC, icL, Option.bind_some, Nat.le_add_right, Nat.le_refl, if_true, if_false, and_self, true_and, and_true, or_false, false_or, or_true, true_or, and_false, false_and, not_true_eq_false, not_false_eq_true, Nat.reduceAdd, Nat.reduceLeDiff, Nat.reduceLT, Option.toList_some, Option.toList_none, List.cons_append, List.nil_append, callK_ret, callR_ret, callK_thr, decide_true, Bool.true_and, xNr, bI0, bIT, bIF, ne_eq, Classical.not_not, not_false_eq_true, false_or, List.length_nil, icM, ic_lt, ic_eq, le_nl, ↓reduceIte, Nat.lt_irrefl, ri_ws, ri_wn, ri_as, ri_an, upd_s, upd_n, rp_wi, rp_wa, rl_wi, rl_wa, rl_wp, rl_wpa, rl_wl, rp_wl, ri_wl, rp_wd, ri_wd, in_rng, Int32.lt_irrefl, Nat.not_lt_zero, pk_nc, Nat.reduceEqDiff, Nat.succ_ne_self, Nat.one_ne_zero, Nat.add_left_cancel_iff, ri_wpa, ri_wp, QModel_charAt_0, h14, hin, m_checkedT, h299, hf, hch, hnar]
  · rw [if_neg hi]
    have hb1 : bI (¬ i < ic 0 ∧ ¬ ic c - ic 1 < i) = ic 0 := if_neg (by rw [htop]; exact hi)
    have hin := fun (σ : sS) => m_in (n0 := n0) (S0 := S0) (d := d) (σ := σ) (v := i) (lo := ic 0) (hi := ic c - ic 1)
    rw [hb1] at hin
    have hnar : narrow .char (.int (ic 32)) = .int (ic 32) := rfl
    simp (disch := first | assumption | (show (_ : Nat) < _; omega) | (show (_ : Nat) ≠ _; omega) | (show (_ : Nat) ≤ _; omega) | exact Or.inl rfl | exact Or.inr rfl) only [hG0, hG1, hG2, hF0, hF1, hA0, hA1, xL, xC, icL, Option.bind_some, Nat.le_add_right, Nat.le_refl, if_true, if_false, and_self, true_and, and_true, or_false, false_or, or_true, true_or, and_false, false_and, not_true_eq_false, not_false_eq_true, Nat.reduceAdd, Nat.reduceLeDiff, Nat.reduceLT, Option.toList_some, Option.toList_none, List.cons_append, List.nil_append, callK_ret, callR_ret, callK_thr, decide_true, Bool.true_and, xNr, bI0, bIT, bIF, ne_eq, Classical.not_not, not_false_eq_true, false_or, List.length_nil, icM, ic_lt, ic_eq, le_nl, ↓reduceIte, Nat.lt_irrefl, ri_ws, ri_wn, ri_as, ri_an, upd_s, upd_n, rp_wi, rp_wa, rl_wi, rl_wa, rl_wp, rl_wpa, rl_wl, rp_wl, ri_wl, rp_wd, ri_wd, in_rng, Int32.lt_irrefl, Nat.not_lt_zero, pk_nc, Nat.reduceEqDiff, Nat.succ_ne_self, Nat.one_ne_zero, Nat.add_left_cancel_iff, ri_wpa, ri_wp, QModel_charAt_0, h14, hin, m_checkedF, hnar]
end M17
