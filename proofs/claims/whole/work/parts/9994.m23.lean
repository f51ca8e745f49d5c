/-! the reference's arguments read; written by wip/whole/gen_m23.py, expanded by px.py -/
/-- the reader: arguments, place, wrong -/
abbrev rS : Type := (Nat → Int32) × Nat × Bool
def rsM (m : mm) (s : rS) : mm := psR (wa m 302 s.1) s.2.1 s.2.2
def nuV (t : Nat → Int32) (l n : Nat) (s : rS) : Int32 := (nuF t l (nuB t l s.2.1 s.2.2) n s.2.1 (ic 0)).1
def nuS (t : Nat → Int32) (l n : Nat) (s : rS) : rS := (s.1, (nuF t l (nuB t l s.2.1 s.2.2) n s.2.1 (ic 0)).2, nuB t l s.2.1 s.2.2)
def opN (t : Nat → Int32) (l c n o : Nat) (s : rS) : rS := (upd s.1 (6 * c + o) (nuV t l n s), (nuS t l n s).2)
def opE (t : Nat → Int32) (l ch : Nat) (s : rS) : rS := (s.1, if exB t l s.2.1 s.2.2 (ic ch) then s.2.1 else s.2.1 + 1, exB t l s.2.1 s.2.2 (ic ch))
def kmS (t : Nat → Int32) (l : Nat) (s : rS) : rS := (s.1, if kmB t l s.2.1 s.2.2 then s.2.1 else s.2.1 + 1, kmB t l s.2.1 s.2.2)
def opK (t : Nat → Int32) (l c o : Nat) (s : rS) : rS := (upd s.1 (6 * c + o) (mkF t l s.2.1 s.2.2), (kmS t l s).2)
theorem nuF_le {t : Nat → Int32} {l : Nat} {b : Bool} : ∀ f p v, p ≤ l → (nuF t l b f p v).2 ≤ l := by
  intro f
  induction f with
  | zero => intro p v h; exact h
  | succ f ih =>
    intro p v h
    unfold nuF
    split
    · rename_i h2
      exact ih _ _ (mk_dg h2).2.1
    · exact h
theorem opN_le {t : Nat → Int32} {l c n o : Nat} {s : rS} (h : s.2.1 ≤ l) : (opN t l c n o s).2.1 ≤ l := nuF_le _ _ _ h
theorem opE_le {t : Nat → Int32} {l ch : Nat} {s : rS} (hch : ch < 1000) (h : s.2.1 ≤ l) : (opE t l ch s).2.1 ≤ l := by
  show (if exB t l s.2.1 s.2.2 (ic ch) then s.2.1 else s.2.1 + 1) ≤ l
  split
  · exact h
  · rename_i h2
    unfold exB mkF at h2
    by_cases h3 : s.2.2 = false ∧ s.2.1 < l
    · exact h3.2
    · rw [if_neg h3] at h2
      have h4 : ¬ (-ic 1 = ic ch) := fun e => by
        have h5 := congrArg (fun x : Int32 => decide (x < ic 0)) e
        have h6 : decide (ic ch < ic 0) = false := decide_eq_false (by rw [ic_lt (by omega) (by omega)]; omega)
        rw [h6] at h5
        exact absurd h5 (by decide)
      rw [decide_eq_false h4] at h2
      simp at h2
theorem kmS_le {t : Nat → Int32} {l : Nat} {s : rS} (h : s.2.1 ≤ l) : (kmS t l s).2.1 ≤ l := by
  show (if kmB t l s.2.1 s.2.2 then s.2.1 else s.2.1 + 1) ≤ l
  split
  · exact h
  · rename_i h2
    unfold kmB mkF at h2
    by_cases h3 : s.2.2 = false ∧ s.2.1 < l
    · exact h3.2
    · rw [if_neg h3] at h2
      have h4 : ¬ (¬ -ic 1 < ic 97 ∧ -ic 1 < ic 101) := by decide
      rw [decide_eq_false h4] at h2
      simp at h2
theorem opK_le {t : Nat → Int32} {l c o : Nat} {s : rS} (h : s.2.1 ≤ l) : (opK t l c o s).2.1 ≤ l := kmS_le h
section M23
variable {n0 N z d : Nat} {S0 : Nat → Value} {G : sH} {m : mm}
theorem rs_f {s : rS} {i : Nat} (h1 : i ≠ 20) (h2 : i ≠ 22) : ri (rsM m s) 292 i = ri m 292 i := by
  unfold rsM
  rw [psR_f h1 h2, ri_an _ _ (by decide)]
theorem rs_put {s : rS} {i : Nat} {v : Int32} : wi (rsM m s) 302 i v = rsM m (upd s.1 i v, s.2) := by
  refine mm_ext (fun k => ?_) rfl rfl rfl
  unfold rsM psR wi
  simp only [ri_wa]
  by_cases h3 : k = 292
  · subst h3; simp
  · by_cases h4 : k = 302
    · subst h4; simp
    · simp [h3, h4]
theorem m_put {c o : Nat} (hc : ri m 292 21 = ic c) (h : 6 * c + o < 192) {s : rS} {v : Int32} : Mt (n0, S0) (d + 1) 237 [.ref (n0 + 292), .int (ic o), .int v] (hp n0 G (rsM m s), N, z) = some (.inl none, (hp n0 G (rsM m (upd s.1 (6 * c + o) v, s.2)), N, z)) := by
  have k292 : kd 292 = 18 := rfl
  have k302 : kd 302 = 24 := rfl
  have g21 : ri (rsM m s) 292 21 = ic c := (rs_f (by decide) (by decide)).trans hc
  have w : wi (rsM m s) 302 (6 * c + o) v = rsM m (upd s.1 (6 * c + o) v, s.2) := rs_put
  have hm : ic 6 * ic c = ic (6 * c) := ic_mul 6 c
  rw [NModel_put]
  generalize rsM m s = M at *
  simp (disch := first | assumption | (show (_ : Nat) < _; omega) | (show (_ : Nat) ≠ _; omega) | (show (_ : Nat) ≤ _; omega) | exact Or.inl rfl | exact Or.inr rfl) only [hG0, hG1, hG2, hF0, hF1, hA0, hA1, xL, xC, icL, Option.bind_some, Nat.le_add_right, Nat.le_refl, if_true, if_false, and_self, true_and, and_true, or_false, false_or, or_true, true_or, and_false, false_and, not_true_eq_false, not_false_eq_true, Nat.reduceAdd, Nat.reduceLeDiff, Nat.reduceLT, Option.toList_some, Option.toList_none, List.cons_append, List.nil_append, callK_ret, callR_ret, callK_thr, decide_true, Bool.true_and, xNr, bI0, bIT, bIF, ne_eq, Classical.not_not, not_false_eq_true, false_or, List.length_nil, icM, ic_lt, ic_eq, le_nl, ↓reduceIte, Nat.lt_irrefl, ri_ws, ri_wn, ri_as, ri_an, upd_s, upd_n, rp_wi, rp_wa, rl_wi, rl_wa, rl_wp, rl_wpa, rl_wl, rp_wl, ri_wl, rp_wd, ri_wd, in_rng, Int32.lt_irrefl, Nat.not_lt_zero, pk_nc, Nat.reduceEqDiff, Nat.succ_ne_self, Nat.one_ne_zero, Nat.add_left_cancel_iff, ri_wpa, ri_wp, QModel_put_0, g21, hm, ic_add, w]
theorem r_N {l n : Nat} (hl : ri m 292 19 = ic l) (h60 : l ≤ 60) (hn : n < 100) {s : rS} (hs : s.2.1 ≤ l) : Mt (n0, S0) (d + 3) 236 [.ref (n0 + 292), .int (ic n)] (hp n0 G (rsM m s), N, z) = oI n0 G (rsM m (nuS (ri m 300) l n s)) N z (nuV (ri m 300) l n s) := by
  have h := m_number (n0 := n0) (S0 := S0) (G := G) (d := d) (N := N) (z := z) (m := wa m 302 s.1) (b := s.2.2) (l := l) (n := n) (by rw [ri_an _ _ (by decide)]; exact hl) h60 hs hn
  rw [ri_an _ _ (by decide)] at h
  exact h
theorem r_E {l ch : Nat} (hl : ri m 292 19 = ic l) (h60 : l ≤ 60) {s : rS} (hs : s.2.1 ≤ l) : Mt (n0, S0) (d + 2) 233 [.ref (n0 + 292), .int (ic ch)] (hp n0 G (rsM m s), N, z) = some (.inl none, (hp n0 G (rsM m (opE (ri m 300) l ch s)), N, z)) := by
  have h := m_expect (n0 := n0) (S0 := S0) (G := G) (d := d) (N := N) (z := z) (m := wa m 302 s.1) (b := s.2.2) (l := l) (p := s.2.1) (c := ic ch) (by rw [ri_an _ _ (by decide)]; exact hl) h60 (by omega)
  rw [ri_an _ _ (by decide)] at h
  exact h
theorem r_K {l : Nat} (hl : ri m 292 19 = ic l) (h60 : l ≤ 60) {s : rS} (hs : s.2.1 ≤ l) : Mt (n0, S0) (d + 3) 238 [.ref (n0 + 292)] (hp n0 G (rsM m s), N, z) = oI n0 G (rsM m (kmS (ri m 300) l s)) N z (mkF (ri m 300) l s.2.1 s.2.2) := by
  have h := m_kindMark (n0 := n0) (S0 := S0) (G := G) (d := d) (N := N) (z := z) (m := wa m 302 s.1) (b := s.2.2) (l := l) (p := s.2.1) (by rw [ri_an _ _ (by decide)]; exact hl) h60 (by omega)
  rw [ri_an _ _ (by decide)] at h
  exact h
/-- what the reading of a word's arguments leaves -/
def rdW (t : Nat → Int32) (l c : Nat) (k : Nat) (s : rS) : rS := if k = 0 then (opN t l c 3 5 (opE t l 64 (opN t l c 1 4 (opE t l 32 (opN t l c 1 3 (opK t l c 2 (opE t l 32 (opN t l c 3 1 (opE t l 44 (opN t l c 3 0 s)))))))))) else if k = 1 then (opN t l c 3 0 s) else if k = 2 then (opN t l c 1 1 (opE t l 62 (opN t l c 3 0 s))) else if k = 3 then (opN t l c 3 0 s) else if k = 4 then (opN t l c 3 1 (opK t l c 0 s)) else if k = 5 then (opN t l c 3 1 (opK t l c 2 (opN t l c 1 0 s))) else if k = 6 then (opN t l c 1 1 (opN t l c 1 0 s)) else if k = 7 then (opN t l c 1 1 (opN t l c 1 0 s)) else if k = 8 then (opN t l c 3 1 (opE t l 32 (opN t l c 1 0 s))) else if k = 9 then (opN t l c 1 0 s) else (opN t l c 3 1 (opE t l 32 (opN t l c 1 0 s)))
theorem r_W0 {l c : Nat} (hl : ri m 292 19 = ic l) (h60 : l ≤ 60) (hc : ri m 292 21 = ic c) (h : 6 * c + 5 < 192) {s : rS} (hs : s.2.1 ≤ l) : Mt (n0, S0) (d + 4) 235 [.ref (n0 + 292)] (hp n0 G (rsM m s), N, z) = some (.inl none, (hp n0 G (rsM m (rdW (ri m 300) l c 0 s)), N, z)) := by
  have k292 : kd 292 = 18 := rfl
  have e : rdW (ri m 300) l c 0 s = (opN (ri m 300) l c 3 5 (opE (ri m 300) l 64 (opN (ri m 300) l c 1 4 (opE (ri m 300) l 32 (opN (ri m 300) l c 1 3 (opK (ri m 300) l c 2 (opE (ri m 300) l 32 (opN (ri m 300) l c 3 1 (opE (ri m 300) l 44 (opN (ri m 300) l c 3 0 s)))))))))) := rfl
  rw [e]
  clear e
  have a0 := fun N z => r_N (n0 := n0) (S0 := S0) (G := G) (d := d) (N := N) (z := z) hl h60 (n := 3) (by omega) hs
  have b0 : ∀ N z, Mt (n0, S0) (d + 3) 237 [.ref (n0 + 292), .int (ic 0), .int (nuV (ri m 300) l 3 s)] (hp n0 G (rsM m (nuS (ri m 300) l 3 s)), N, z) = some (.inl none, (hp n0 G (rsM m (opN (ri m 300) l c 3 0 s)), N, z)) := fun N z => m_put (d := d + 2) hc (by omega)
  have s0 : (opN (ri m 300) l c 3 0 s).2.1 ≤ l := opN_le hs
  generalize hg0 : (opN (ri m 300) l c 3 0 s) = q0 at *
  have a1 := fun N z => r_E (n0 := n0) (S0 := S0) (G := G) (d := d + 1) (N := N) (z := z) (ch := 44) hl h60 s0
  have s1 : (opE (ri m 300) l 44 q0).2.1 ≤ l := opE_le (by omega) s0
  generalize hg1 : (opE (ri m 300) l 44 q0) = q1 at *
  have a2 := fun N z => r_N (n0 := n0) (S0 := S0) (G := G) (d := d) (N := N) (z := z) hl h60 (n := 3) (by omega) s1
  have b2 : ∀ N z, Mt (n0, S0) (d + 3) 237 [.ref (n0 + 292), .int (ic 1), .int (nuV (ri m 300) l 3 q1)] (hp n0 G (rsM m (nuS (ri m 300) l 3 q1)), N, z) = some (.inl none, (hp n0 G (rsM m (opN (ri m 300) l c 3 1 q1)), N, z)) := fun N z => m_put (d := d + 2) hc (by omega)
  have s2 : (opN (ri m 300) l c 3 1 q1).2.1 ≤ l := opN_le s1
  generalize hg2 : (opN (ri m 300) l c 3 1 q1) = q2 at *
  have a3 := fun N z => r_E (n0 := n0) (S0 := S0) (G := G) (d := d + 1) (N := N) (z := z) (ch := 32) hl h60 s2
  have s3 : (opE (ri m 300) l 32 q2).2.1 ≤ l := opE_le (by omega) s2
  generalize hg3 : (opE (ri m 300) l 32 q2) = q3 at *
  have a4 := fun N z => r_K (n0 := n0) (S0 := S0) (G := G) (d := d) (N := N) (z := z) hl h60 s3
  have b4 : ∀ N z, Mt (n0, S0) (d + 3) 237 [.ref (n0 + 292), .int (ic 2), .int (mkF (ri m 300) l q3.2.1 q3.2.2)] (hp n0 G (rsM m (kmS (ri m 300) l q3)), N, z) = some (.inl none, (hp n0 G (rsM m (opK (ri m 300) l c 2 q3)), N, z)) := fun N z => m_put (d := d + 2) hc (by omega)
  have s4 : (opK (ri m 300) l c 2 q3).2.1 ≤ l := opK_le s3
  generalize hg4 : (opK (ri m 300) l c 2 q3) = q4 at *
  have a5 := fun N z => r_N (n0 := n0) (S0 := S0) (G := G) (d := d) (N := N) (z := z) hl h60 (n := 1) (by omega) s4
  have b5 : ∀ N z, Mt (n0, S0) (d + 3) 237 [.ref (n0 + 292), .int (ic 3), .int (nuV (ri m 300) l 1 q4)] (hp n0 G (rsM m (nuS (ri m 300) l 1 q4)), N, z) = some (.inl none, (hp n0 G (rsM m (opN (ri m 300) l c 1 3 q4)), N, z)) := fun N z => m_put (d := d + 2) hc (by omega)
  have s5 : (opN (ri m 300) l c 1 3 q4).2.1 ≤ l := opN_le s4
  generalize hg5 : (opN (ri m 300) l c 1 3 q4) = q5 at *
  have a6 := fun N z => r_E (n0 := n0) (S0 := S0) (G := G) (d := d + 1) (N := N) (z := z) (ch := 32) hl h60 s5
  have s6 : (opE (ri m 300) l 32 q5).2.1 ≤ l := opE_le (by omega) s5
  generalize hg6 : (opE (ri m 300) l 32 q5) = q6 at *
  have a7 := fun N z => r_N (n0 := n0) (S0 := S0) (G := G) (d := d) (N := N) (z := z) hl h60 (n := 1) (by omega) s6
  have b7 : ∀ N z, Mt (n0, S0) (d + 3) 237 [.ref (n0 + 292), .int (ic 4), .int (nuV (ri m 300) l 1 q6)] (hp n0 G (rsM m (nuS (ri m 300) l 1 q6)), N, z) = some (.inl none, (hp n0 G (rsM m (opN (ri m 300) l c 1 4 q6)), N, z)) := fun N z => m_put (d := d + 2) hc (by omega)
  have s7 : (opN (ri m 300) l c 1 4 q6).2.1 ≤ l := opN_le s6
  generalize hg7 : (opN (ri m 300) l c 1 4 q6) = q7 at *
  have a8 := fun N z => r_E (n0 := n0) (S0 := S0) (G := G) (d := d + 1) (N := N) (z := z) (ch := 64) hl h60 s7
  have s8 : (opE (ri m 300) l 64 q7).2.1 ≤ l := opE_le (by omega) s7
  generalize hg8 : (opE (ri m 300) l 64 q7) = q8 at *
  have a9 := fun N z => r_N (n0 := n0) (S0 := S0) (G := G) (d := d) (N := N) (z := z) hl h60 (n := 3) (by omega) s8
  have b9 : ∀ N z, Mt (n0, S0) (d + 3) 237 [.ref (n0 + 292), .int (ic 5), .int (nuV (ri m 300) l 3 q8)] (hp n0 G (rsM m (nuS (ri m 300) l 3 q8)), N, z) = some (.inl none, (hp n0 G (rsM m (opN (ri m 300) l c 3 5 q8)), N, z)) := fun N z => m_put (d := d + 2) hc (by omega)
  have s9 : (opN (ri m 300) l c 3 5 q8).2.1 ≤ l := opN_le s8
  generalize hg9 : (opN (ri m 300) l c 3 5 q8) = q9 at *
  rw [NModel_readsJob]
  simp (disch := first | assumption | (show (_ : Nat) < _; omega) | (show (_ : Nat) ≠ _; omega) | (show (_ : Nat) ≤ _; omega) | exact Or.inl rfl | exact Or.inr rfl) only [hG0, hG1, hG2, hF0, hF1, hA0, hA1, xL, xC, icL, Option.bind_some, Nat.le_add_right, Nat.le_refl, if_true, if_false, and_self, true_and, and_true, or_false, false_or, or_true, true_or, and_false, false_and, not_true_eq_false, not_false_eq_true, Nat.reduceAdd, Nat.reduceLeDiff, Nat.reduceLT, Option.toList_some, Option.toList_none, List.cons_append, List.nil_append, callK_ret, callR_ret, callK_thr, decide_true, Bool.true_and, xNr, bI0, bIT, bIF, ne_eq, Classical.not_not, not_false_eq_true, false_or, List.length_nil, icM, ic_lt, ic_eq, le_nl, ↓reduceIte, Nat.lt_irrefl, ri_ws, ri_wn, ri_as, ri_an, upd_s, upd_n, rp_wi, rp_wa, rl_wi, rl_wa, rl_wp, rl_wpa, rl_wl, rp_wl, ri_wl, rp_wd, ri_wd, in_rng, Int32.lt_irrefl, Nat.not_lt_zero, pk_nc, Nat.reduceEqDiff, Nat.succ_ne_self, Nat.one_ne_zero, Nat.add_left_cancel_iff, ri_wpa, ri_wp, QModel_readsJob_0, QModel_readsJob_1, QModel_readsJob_2, icY, a0, b0, a1, a2, b2, a3, a4, b4, a5, b5, a6, a7, b7, a8, a9, b9]
theorem r_W1 {l c : Nat} (hl : ri m 292 19 = ic l) (h60 : l ≤ 60) (hc : ri m 292 21 = ic c) (h : 6 * c + 5 < 192) {s : rS} (hs : s.2.1 ≤ l) : Mt (n0, S0) (d + 4) 239 [.ref (n0 + 292), .int (ic 1)] (hp n0 G (rsM m s), N, z) = some (.inl none, (hp n0 G (rsM m (rdW (ri m 300) l c 1 s)), N, z)) := by
  have k292 : kd 292 = 18 := rfl
  have e : rdW (ri m 300) l c 1 s = (opN (ri m 300) l c 3 0 s) := rfl
  rw [e]
  clear e
  have a0 := fun N z => r_N (n0 := n0) (S0 := S0) (G := G) (d := d) (N := N) (z := z) hl h60 (n := 3) (by omega) hs
  have b0 : ∀ N z, Mt (n0, S0) (d + 3) 237 [.ref (n0 + 292), .int (ic 0), .int (nuV (ri m 300) l 3 s)] (hp n0 G (rsM m (nuS (ri m 300) l 3 s)), N, z) = some (.inl none, (hp n0 G (rsM m (opN (ri m 300) l c 3 0 s)), N, z)) := fun N z => m_put (d := d + 2) hc (by omega)
  have s0 : (opN (ri m 300) l c 3 0 s).2.1 ≤ l := opN_le hs
  generalize hg0 : (opN (ri m 300) l c 3 0 s) = q0 at *
  rw [NModel_readsOther]
  simp (disch := first | assumption | (show (_ : Nat) < _; omega) | (show (_ : Nat) ≠ _; omega) | (show (_ : Nat) ≤ _; omega) | exact Or.inl rfl | exact Or.inr rfl) only [hG0, hG1, hG2, hF0, hF1, hA0, hA1, xL, xC, icL, Option.bind_some, Nat.le_add_right, Nat.le_refl, if_true, if_false, and_self, true_and, and_true, or_false, false_or, or_true, true_or, and_false, false_and, not_true_eq_false, not_false_eq_true, Nat.reduceAdd, Nat.reduceLeDiff, Nat.reduceLT, Option.toList_some, Option.toList_none, List.cons_append, List.nil_append, callK_ret, callR_ret, callK_thr, decide_true, Bool.true_and, xNr, bI0, bIT, bIF, ne_eq, Classical.not_not, not_false_eq_true, false_or, List.length_nil, icM, ic_lt, ic_eq, le_nl, ↓reduceIte, Nat.lt_irrefl, ri_ws, ri_wn, ri_as, ri_an, upd_s, upd_n, rp_wi, rp_wa, rl_wi, rl_wa, rl_wp, rl_wpa, rl_wl, rp_wl, ri_wl, rp_wd, ri_wd, in_rng, Int32.lt_irrefl, Nat.not_lt_zero, pk_nc, Nat.reduceEqDiff, Nat.succ_ne_self, Nat.one_ne_zero, Nat.add_left_cancel_iff, ri_wpa, ri_wp, QModel_readsOther_0, QModel_readsOther_1, QModel_readsOther_2, icY, a0, b0]
theorem r_W2 {l c : Nat} (hl : ri m 292 19 = ic l) (h60 : l ≤ 60) (hc : ri m 292 21 = ic c) (h : 6 * c + 5 < 192) {s : rS} (hs : s.2.1 ≤ l) : Mt (n0, S0) (d + 4) 239 [.ref (n0 + 292), .int (ic 2)] (hp n0 G (rsM m s), N, z) = some (.inl none, (hp n0 G (rsM m (rdW (ri m 300) l c 2 s)), N, z)) := by
  have k292 : kd 292 = 18 := rfl
  have e : rdW (ri m 300) l c 2 s = (opN (ri m 300) l c 1 1 (opE (ri m 300) l 62 (opN (ri m 300) l c 3 0 s))) := rfl
  rw [e]
  clear e
  have a0 := fun N z => r_N (n0 := n0) (S0 := S0) (G := G) (d := d) (N := N) (z := z) hl h60 (n := 3) (by omega) hs
  have b0 : ∀ N z, Mt (n0, S0) (d + 3) 237 [.ref (n0 + 292), .int (ic 0), .int (nuV (ri m 300) l 3 s)] (hp n0 G (rsM m (nuS (ri m 300) l 3 s)), N, z) = some (.inl none, (hp n0 G (rsM m (opN (ri m 300) l c 3 0 s)), N, z)) := fun N z => m_put (d := d + 2) hc (by omega)
  have s0 : (opN (ri m 300) l c 3 0 s).2.1 ≤ l := opN_le hs
  generalize hg0 : (opN (ri m 300) l c 3 0 s) = q0 at *
  have a1 := fun N z => r_E (n0 := n0) (S0 := S0) (G := G) (d := d + 1) (N := N) (z := z) (ch := 62) hl h60 s0
  have s1 : (opE (ri m 300) l 62 q0).2.1 ≤ l := opE_le (by omega) s0
  generalize hg1 : (opE (ri m 300) l 62 q0) = q1 at *
  have a2 := fun N z => r_N (n0 := n0) (S0 := S0) (G := G) (d := d) (N := N) (z := z) hl h60 (n := 1) (by omega) s1
  have b2 : ∀ N z, Mt (n0, S0) (d + 3) 237 [.ref (n0 + 292), .int (ic 1), .int (nuV (ri m 300) l 1 q1)] (hp n0 G (rsM m (nuS (ri m 300) l 1 q1)), N, z) = some (.inl none, (hp n0 G (rsM m (opN (ri m 300) l c 1 1 q1)), N, z)) := fun N z => m_put (d := d + 2) hc (by omega)
  have s2 : (opN (ri m 300) l c 1 1 q1).2.1 ≤ l := opN_le s1
  generalize hg2 : (opN (ri m 300) l c 1 1 q1) = q2 at *
  rw [NModel_readsOther]
  simp (disch := first | assumption | (show (_ : Nat) < _; omega) | (show (_ : Nat) ≠ _; omega) | (show (_ : Nat) ≤ _; omega) | exact Or.inl rfl | exact Or.inr rfl) only [hG0, hG1, hG2, hF0, hF1, hA0, hA1, xL, xC, icL, Option.bind_some, Nat.le_add_right, Nat.le_refl, if_true, if_false, and_self, true_and, and_true, or_false, false_or, or_true, true_or, and_false, false_and, not_true_eq_false, not_false_eq_true, Nat.reduceAdd, Nat.reduceLeDiff, Nat.reduceLT, Option.toList_some, Option.toList_none, List.cons_append, List.nil_append, callK_ret, callR_ret, callK_thr, decide_true, Bool.true_and, xNr, bI0, bIT, bIF, ne_eq, Classical.not_not, not_false_eq_true, false_or, List.length_nil, icM, ic_lt, ic_eq, le_nl, ↓reduceIte, Nat.lt_irrefl, ri_ws, ri_wn, ri_as, ri_an, upd_s, upd_n, rp_wi, rp_wa, rl_wi, rl_wa, rl_wp, rl_wpa, rl_wl, rp_wl, ri_wl, rp_wd, ri_wd, in_rng, Int32.lt_irrefl, Nat.not_lt_zero, pk_nc, Nat.reduceEqDiff, Nat.succ_ne_self, Nat.one_ne_zero, Nat.add_left_cancel_iff, ri_wpa, ri_wp, QModel_readsOther_0, QModel_readsOther_1, QModel_readsOther_2, icY, a0, b0, a1, a2, b2]
theorem r_W3 {l c : Nat} (hl : ri m 292 19 = ic l) (h60 : l ≤ 60) (hc : ri m 292 21 = ic c) (h : 6 * c + 5 < 192) {s : rS} (hs : s.2.1 ≤ l) : Mt (n0, S0) (d + 4) 239 [.ref (n0 + 292), .int (ic 3)] (hp n0 G (rsM m s), N, z) = some (.inl none, (hp n0 G (rsM m (rdW (ri m 300) l c 3 s)), N, z)) := by
  have k292 : kd 292 = 18 := rfl
  have e : rdW (ri m 300) l c 3 s = (opN (ri m 300) l c 3 0 s) := rfl
  rw [e]
  clear e
  have a0 := fun N z => r_N (n0 := n0) (S0 := S0) (G := G) (d := d) (N := N) (z := z) hl h60 (n := 3) (by omega) hs
  have b0 : ∀ N z, Mt (n0, S0) (d + 3) 237 [.ref (n0 + 292), .int (ic 0), .int (nuV (ri m 300) l 3 s)] (hp n0 G (rsM m (nuS (ri m 300) l 3 s)), N, z) = some (.inl none, (hp n0 G (rsM m (opN (ri m 300) l c 3 0 s)), N, z)) := fun N z => m_put (d := d + 2) hc (by omega)
  have s0 : (opN (ri m 300) l c 3 0 s).2.1 ≤ l := opN_le hs
  generalize hg0 : (opN (ri m 300) l c 3 0 s) = q0 at *
  rw [NModel_readsOther]
  simp (disch := first | assumption | (show (_ : Nat) < _; omega) | (show (_ : Nat) ≠ _; omega) | (show (_ : Nat) ≤ _; omega) | exact Or.inl rfl | exact Or.inr rfl) only [hG0, hG1, hG2, hF0, hF1, hA0, hA1, xL, xC, icL, Option.bind_some, Nat.le_add_right, Nat.le_refl, if_true, if_false, and_self, true_and, and_true, or_false, false_or, or_true, true_or, and_false, false_and, not_true_eq_false, not_false_eq_true, Nat.reduceAdd, Nat.reduceLeDiff, Nat.reduceLT, Option.toList_some, Option.toList_none, List.cons_append, List.nil_append, callK_ret, callR_ret, callK_thr, decide_true, Bool.true_and, xNr, bI0, bIT, bIF, ne_eq, Classical.not_not, not_false_eq_true, false_or, List.length_nil, icM, ic_lt, ic_eq, le_nl, ↓reduceIte, Nat.lt_irrefl, ri_ws, ri_wn, ri_as, ri_an, upd_s, upd_n, rp_wi, rp_wa, rl_wi, rl_wa, rl_wp, rl_wpa, rl_wl, rp_wl, ri_wl, rp_wd, ri_wd, in_rng, Int32.lt_irrefl, Nat.not_lt_zero, pk_nc, Nat.reduceEqDiff, Nat.succ_ne_self, Nat.one_ne_zero, Nat.add_left_cancel_iff, ri_wpa, ri_wp, QModel_readsOther_0, QModel_readsOther_1, QModel_readsOther_2, icY, a0, b0]
theorem r_W4 {l c : Nat} (hl : ri m 292 19 = ic l) (h60 : l ≤ 60) (hc : ri m 292 21 = ic c) (h : 6 * c + 5 < 192) {s : rS} (hs : s.2.1 ≤ l) : Mt (n0, S0) (d + 4) 239 [.ref (n0 + 292), .int (ic 4)] (hp n0 G (rsM m s), N, z) = some (.inl none, (hp n0 G (rsM m (rdW (ri m 300) l c 4 s)), N, z)) := by
  have k292 : kd 292 = 18 := rfl
  have e : rdW (ri m 300) l c 4 s = (opN (ri m 300) l c 3 1 (opK (ri m 300) l c 0 s)) := rfl
  rw [e]
  clear e
  have a0 := fun N z => r_K (n0 := n0) (S0 := S0) (G := G) (d := d) (N := N) (z := z) hl h60 hs
  have b0 : ∀ N z, Mt (n0, S0) (d + 3) 237 [.ref (n0 + 292), .int (ic 0), .int (mkF (ri m 300) l s.2.1 s.2.2)] (hp n0 G (rsM m (kmS (ri m 300) l s)), N, z) = some (.inl none, (hp n0 G (rsM m (opK (ri m 300) l c 0 s)), N, z)) := fun N z => m_put (d := d + 2) hc (by omega)
  have s0 : (opK (ri m 300) l c 0 s).2.1 ≤ l := opK_le hs
  generalize hg0 : (opK (ri m 300) l c 0 s) = q0 at *
  have a1 := fun N z => r_N (n0 := n0) (S0 := S0) (G := G) (d := d) (N := N) (z := z) hl h60 (n := 3) (by omega) s0
  have b1 : ∀ N z, Mt (n0, S0) (d + 3) 237 [.ref (n0 + 292), .int (ic 1), .int (nuV (ri m 300) l 3 q0)] (hp n0 G (rsM m (nuS (ri m 300) l 3 q0)), N, z) = some (.inl none, (hp n0 G (rsM m (opN (ri m 300) l c 3 1 q0)), N, z)) := fun N z => m_put (d := d + 2) hc (by omega)
  have s1 : (opN (ri m 300) l c 3 1 q0).2.1 ≤ l := opN_le s0
  generalize hg1 : (opN (ri m 300) l c 3 1 q0) = q1 at *
  rw [NModel_readsOther]
  simp (disch := first | assumption | (show (_ : Nat) < _; omega) | (show (_ : Nat) ≠ _; omega) | (show (_ : Nat) ≤ _; omega) | exact Or.inl rfl | exact Or.inr rfl) only [hG0, hG1, hG2, hF0, hF1, hA0, hA1, xL, xC, icL, Option.bind_some, Nat.le_add_right, Nat.le_refl, if_true, if_false, and_self, true_and, and_true, or_false, false_or, or_true, true_or, and_false, false_and, not_true_eq_false, not_false_eq_true, Nat.reduceAdd, Nat.reduceLeDiff, Nat.reduceLT, Option.toList_some, Option.toList_none, List.cons_append, List.nil_append, callK_ret, callR_ret, callK_thr, decide_true, Bool.true_and, xNr, bI0, bIT, bIF, ne_eq, Classical.not_not, not_false_eq_true, false_or, List.length_nil, icM, ic_lt, ic_eq, le_nl, ↓reduceIte, Nat.lt_irrefl, ri_ws, ri_wn, ri_as, ri_an, upd_s, upd_n, rp_wi, rp_wa, rl_wi, rl_wa, rl_wp, rl_wpa, rl_wl, rp_wl, ri_wl, rp_wd, ri_wd, in_rng, Int32.lt_irrefl, Nat.not_lt_zero, pk_nc, Nat.reduceEqDiff, Nat.succ_ne_self, Nat.one_ne_zero, Nat.add_left_cancel_iff, ri_wpa, ri_wp, QModel_readsOther_0, QModel_readsOther_1, QModel_readsOther_2, icY, a0, b0, a1, b1]
theorem r_W5 {l c : Nat} (hl : ri m 292 19 = ic l) (h60 : l ≤ 60) (hc : ri m 292 21 = ic c) (h : 6 * c + 5 < 192) {s : rS} (hs : s.2.1 ≤ l) : Mt (n0, S0) (d + 4) 239 [.ref (n0 + 292), .int (ic 5)] (hp n0 G (rsM m s), N, z) = some (.inl none, (hp n0 G (rsM m (rdW (ri m 300) l c 5 s)), N, z)) := by
  have k292 : kd 292 = 18 := rfl
  have e : rdW (ri m 300) l c 5 s = (opN (ri m 300) l c 3 1 (opK (ri m 300) l c 2 (opN (ri m 300) l c 1 0 s))) := rfl
  rw [e]
  clear e
  have a0 := fun N z => r_N (n0 := n0) (S0 := S0) (G := G) (d := d) (N := N) (z := z) hl h60 (n := 1) (by omega) hs
  have b0 : ∀ N z, Mt (n0, S0) (d + 3) 237 [.ref (n0 + 292), .int (ic 0), .int (nuV (ri m 300) l 1 s)] (hp n0 G (rsM m (nuS (ri m 300) l 1 s)), N, z) = some (.inl none, (hp n0 G (rsM m (opN (ri m 300) l c 1 0 s)), N, z)) := fun N z => m_put (d := d + 2) hc (by omega)
  have s0 : (opN (ri m 300) l c 1 0 s).2.1 ≤ l := opN_le hs
  generalize hg0 : (opN (ri m 300) l c 1 0 s) = q0 at *
  have a1 := fun N z => r_K (n0 := n0) (S0 := S0) (G := G) (d := d) (N := N) (z := z) hl h60 s0
  have b1 : ∀ N z, Mt (n0, S0) (d + 3) 237 [.ref (n0 + 292), .int (ic 2), .int (mkF (ri m 300) l q0.2.1 q0.2.2)] (hp n0 G (rsM m (kmS (ri m 300) l q0)), N, z) = some (.inl none, (hp n0 G (rsM m (opK (ri m 300) l c 2 q0)), N, z)) := fun N z => m_put (d := d + 2) hc (by omega)
  have s1 : (opK (ri m 300) l c 2 q0).2.1 ≤ l := opK_le s0
  generalize hg1 : (opK (ri m 300) l c 2 q0) = q1 at *
  have a2 := fun N z => r_N (n0 := n0) (S0 := S0) (G := G) (d := d) (N := N) (z := z) hl h60 (n := 3) (by omega) s1
  have b2 : ∀ N z, Mt (n0, S0) (d + 3) 237 [.ref (n0 + 292), .int (ic 1), .int (nuV (ri m 300) l 3 q1)] (hp n0 G (rsM m (nuS (ri m 300) l 3 q1)), N, z) = some (.inl none, (hp n0 G (rsM m (opN (ri m 300) l c 3 1 q1)), N, z)) := fun N z => m_put (d := d + 2) hc (by omega)
  have s2 : (opN (ri m 300) l c 3 1 q1).2.1 ≤ l := opN_le s1
  generalize hg2 : (opN (ri m 300) l c 3 1 q1) = q2 at *
  rw [NModel_readsOther]
  simp (disch := first | assumption | (show (_ : Nat) < _; omega) | (show (_ : Nat) ≠ _; omega) | (show (_ : Nat) ≤ _; omega) | exact Or.inl rfl | exact Or.inr rfl) only [hG0, hG1, hG2, hF0, hF1, hA0, hA1, xL, xC, icL, Option.bind_some, Nat.le_add_right, Nat.le_refl, if_true, if_false, and_self, true_and, and_true, or_false, false_or, or_true, true_or, and_false, false_and, not_true_eq_false, not_false_eq_true, Nat.reduceAdd, Nat.reduceLeDiff, Nat.reduceLT, Option.toList_some, Option.toList_none, List.cons_append, List.nil_append, callK_ret, callR_ret, callK_thr, decide_true, Bool.true_and, xNr, bI0, bIT, bIF, ne_eq, Classical.not_not, not_false_eq_true, false_or, List.length_nil, icM, ic_lt, ic_eq, le_nl, ↓reduceIte, Nat.lt_irrefl, ri_ws, ri_wn, ri_as, ri_an, upd_s, upd_n, rp_wi, rp_wa, rl_wi, rl_wa, rl_wp, rl_wpa, rl_wl, rp_wl, ri_wl, rp_wd, ri_wd, in_rng, Int32.lt_irrefl, Nat.not_lt_zero, pk_nc, Nat.reduceEqDiff, Nat.succ_ne_self, Nat.one_ne_zero, Nat.add_left_cancel_iff, ri_wpa, ri_wp, QModel_readsOther_0, QModel_readsOther_1, QModel_readsOther_2, icY, a0, b0, a1, b1, a2, b2]
theorem r_W6 {l c : Nat} (hl : ri m 292 19 = ic l) (h60 : l ≤ 60) (hc : ri m 292 21 = ic c) (h : 6 * c + 5 < 192) {s : rS} (hs : s.2.1 ≤ l) : Mt (n0, S0) (d + 4) 239 [.ref (n0 + 292), .int (ic 6)] (hp n0 G (rsM m s), N, z) = some (.inl none, (hp n0 G (rsM m (rdW (ri m 300) l c 6 s)), N, z)) := by
  have k292 : kd 292 = 18 := rfl
  have e : rdW (ri m 300) l c 6 s = (opN (ri m 300) l c 1 1 (opN (ri m 300) l c 1 0 s)) := rfl
  rw [e]
  clear e
  have a0 := fun N z => r_N (n0 := n0) (S0 := S0) (G := G) (d := d) (N := N) (z := z) hl h60 (n := 1) (by omega) hs
  have b0 : ∀ N z, Mt (n0, S0) (d + 3) 237 [.ref (n0 + 292), .int (ic 0), .int (nuV (ri m 300) l 1 s)] (hp n0 G (rsM m (nuS (ri m 300) l 1 s)), N, z) = some (.inl none, (hp n0 G (rsM m (opN (ri m 300) l c 1 0 s)), N, z)) := fun N z => m_put (d := d + 2) hc (by omega)
  have s0 : (opN (ri m 300) l c 1 0 s).2.1 ≤ l := opN_le hs
  generalize hg0 : (opN (ri m 300) l c 1 0 s) = q0 at *
  have a1 := fun N z => r_N (n0 := n0) (S0 := S0) (G := G) (d := d) (N := N) (z := z) hl h60 (n := 1) (by omega) s0
  have b1 : ∀ N z, Mt (n0, S0) (d + 3) 237 [.ref (n0 + 292), .int (ic 1), .int (nuV (ri m 300) l 1 q0)] (hp n0 G (rsM m (nuS (ri m 300) l 1 q0)), N, z) = some (.inl none, (hp n0 G (rsM m (opN (ri m 300) l c 1 1 q0)), N, z)) := fun N z => m_put (d := d + 2) hc (by omega)
  have s1 : (opN (ri m 300) l c 1 1 q0).2.1 ≤ l := opN_le s0
  generalize hg1 : (opN (ri m 300) l c 1 1 q0) = q1 at *
  rw [NModel_readsOther]
  simp (disch := first | assumption | (show (_ : Nat) < _; omega) | (show (_ : Nat) ≠ _; omega) | (show (_ : Nat) ≤ _; omega) | exact Or.inl rfl | exact Or.inr rfl) only [hG0, hG1, hG2, hF0, hF1, hA0, hA1, xL, xC, icL, Option.bind_some, Nat.le_add_right, Nat.le_refl, if_true, if_false, and_self, true_and, and_true, or_false, false_or, or_true, true_or, and_false, false_and, not_true_eq_false, not_false_eq_true, Nat.reduceAdd, Nat.reduceLeDiff, Nat.reduceLT, Option.toList_some, Option.toList_none, List.cons_append, List.nil_append, callK_ret, callR_ret, callK_thr, decide_true, Bool.true_and, xNr, bI0, bIT, bIF, ne_eq, Classical.not_not, not_false_eq_true, false_or, List.length_nil, icM, ic_lt, ic_eq, le_nl, ↓reduceIte, Nat.lt_irrefl, ri_ws, ri_wn, ri_as, ri_an, upd_s, upd_n, rp_wi, rp_wa, rl_wi, rl_wa, rl_wp, rl_wpa, rl_wl, rp_wl, ri_wl, rp_wd, ri_wd, in_rng, Int32.lt_irrefl, Nat.not_lt_zero, pk_nc, Nat.reduceEqDiff, Nat.succ_ne_self, Nat.one_ne_zero, Nat.add_left_cancel_iff, ri_wpa, ri_wp, QModel_readsOther_0, QModel_readsOther_1, QModel_readsOther_2, icY, a0, b0, a1, b1]
theorem r_W7 {l c : Nat} (hl : ri m 292 19 = ic l) (h60 : l ≤ 60) (hc : ri m 292 21 = ic c) (h : 6 * c + 5 < 192) {s : rS} (hs : s.2.1 ≤ l) : Mt (n0, S0) (d + 4) 239 [.ref (n0 + 292), .int (ic 7)] (hp n0 G (rsM m s), N, z) = some (.inl none, (hp n0 G (rsM m (rdW (ri m 300) l c 7 s)), N, z)) := by
  have k292 : kd 292 = 18 := rfl
  have e : rdW (ri m 300) l c 7 s = (opN (ri m 300) l c 1 1 (opN (ri m 300) l c 1 0 s)) := rfl
  rw [e]
  clear e
  have a0 := fun N z => r_N (n0 := n0) (S0 := S0) (G := G) (d := d) (N := N) (z := z) hl h60 (n := 1) (by omega) hs
  have b0 : ∀ N z, Mt (n0, S0) (d + 3) 237 [.ref (n0 + 292), .int (ic 0), .int (nuV (ri m 300) l 1 s)] (hp n0 G (rsM m (nuS (ri m 300) l 1 s)), N, z) = some (.inl none, (hp n0 G (rsM m (opN (ri m 300) l c 1 0 s)), N, z)) := fun N z => m_put (d := d + 2) hc (by omega)
  have s0 : (opN (ri m 300) l c 1 0 s).2.1 ≤ l := opN_le hs
  generalize hg0 : (opN (ri m 300) l c 1 0 s) = q0 at *
  have a1 := fun N z => r_N (n0 := n0) (S0 := S0) (G := G) (d := d) (N := N) (z := z) hl h60 (n := 1) (by omega) s0
  have b1 : ∀ N z, Mt (n0, S0) (d + 3) 237 [.ref (n0 + 292), .int (ic 1), .int (nuV (ri m 300) l 1 q0)] (hp n0 G (rsM m (nuS (ri m 300) l 1 q0)), N, z) = some (.inl none, (hp n0 G (rsM m (opN (ri m 300) l c 1 1 q0)), N, z)) := fun N z => m_put (d := d + 2) hc (by omega)
  have s1 : (opN (ri m 300) l c 1 1 q0).2.1 ≤ l := opN_le s0
  generalize hg1 : (opN (ri m 300) l c 1 1 q0) = q1 at *
  rw [NModel_readsOther]
  simp (disch := first | assumption | (show (_ : Nat) < _; omega) | (show (_ : Nat) ≠ _; omega) | (show (_ : Nat) ≤ _; omega) | exact Or.inl rfl | exact Or.inr rfl) only [hG0, hG1, hG2, hF0, hF1, hA0, hA1, xL, xC, icL, Option.bind_some, Nat.le_add_right, Nat.le_refl, if_true, if_false, and_self, true_and, and_true, or_false, false_or, or_true, true_or, and_false, false_and, not_true_eq_false, not_false_eq_true, Nat.reduceAdd, Nat.reduceLeDiff, Nat.reduceLT, Option.toList_some, Option.toList_none, List.cons_append, List.nil_append, callK_ret, callR_ret, callK_thr, decide_true, Bool.true_and, xNr, bI0, bIT, bIF, ne_eq, Classical.not_not, not_false_eq_true, false_or, List.length_nil, icM, ic_lt, ic_eq, le_nl, ↓reduceIte, Nat.lt_irrefl, ri_ws, ri_wn, ri_as, ri_an, upd_s, upd_n, rp_wi, rp_wa, rl_wi, rl_wa, rl_wp, rl_wpa, rl_wl, rp_wl, ri_wl, rp_wd, ri_wd, in_rng, Int32.lt_irrefl, Nat.not_lt_zero, pk_nc, Nat.reduceEqDiff, Nat.succ_ne_self, Nat.one_ne_zero, Nat.add_left_cancel_iff, ri_wpa, ri_wp, QModel_readsOther_0, QModel_readsOther_1, QModel_readsOther_2, icY, a0, b0, a1, b1]
theorem r_W8 {l c : Nat} (hl : ri m 292 19 = ic l) (h60 : l ≤ 60) (hc : ri m 292 21 = ic c) (h : 6 * c + 5 < 192) {s : rS} (hs : s.2.1 ≤ l) : Mt (n0, S0) (d + 4) 239 [.ref (n0 + 292), .int (ic 8)] (hp n0 G (rsM m s), N, z) = some (.inl none, (hp n0 G (rsM m (rdW (ri m 300) l c 8 s)), N, z)) := by
  have k292 : kd 292 = 18 := rfl
  have e : rdW (ri m 300) l c 8 s = (opN (ri m 300) l c 3 1 (opE (ri m 300) l 32 (opN (ri m 300) l c 1 0 s))) := rfl
  rw [e]
  clear e
  have a0 := fun N z => r_N (n0 := n0) (S0 := S0) (G := G) (d := d) (N := N) (z := z) hl h60 (n := 1) (by omega) hs
  have b0 : ∀ N z, Mt (n0, S0) (d + 3) 237 [.ref (n0 + 292), .int (ic 0), .int (nuV (ri m 300) l 1 s)] (hp n0 G (rsM m (nuS (ri m 300) l 1 s)), N, z) = some (.inl none, (hp n0 G (rsM m (opN (ri m 300) l c 1 0 s)), N, z)) := fun N z => m_put (d := d + 2) hc (by omega)
  have s0 : (opN (ri m 300) l c 1 0 s).2.1 ≤ l := opN_le hs
  generalize hg0 : (opN (ri m 300) l c 1 0 s) = q0 at *
  have a1 := fun N z => r_E (n0 := n0) (S0 := S0) (G := G) (d := d + 1) (N := N) (z := z) (ch := 32) hl h60 s0
  have s1 : (opE (ri m 300) l 32 q0).2.1 ≤ l := opE_le (by omega) s0
  generalize hg1 : (opE (ri m 300) l 32 q0) = q1 at *
  have a2 := fun N z => r_N (n0 := n0) (S0 := S0) (G := G) (d := d) (N := N) (z := z) hl h60 (n := 3) (by omega) s1
  have b2 : ∀ N z, Mt (n0, S0) (d + 3) 237 [.ref (n0 + 292), .int (ic 1), .int (nuV (ri m 300) l 3 q1)] (hp n0 G (rsM m (nuS (ri m 300) l 3 q1)), N, z) = some (.inl none, (hp n0 G (rsM m (opN (ri m 300) l c 3 1 q1)), N, z)) := fun N z => m_put (d := d + 2) hc (by omega)
  have s2 : (opN (ri m 300) l c 3 1 q1).2.1 ≤ l := opN_le s1
  generalize hg2 : (opN (ri m 300) l c 3 1 q1) = q2 at *
  rw [NModel_readsOther]
  simp (disch := first | assumption | (show (_ : Nat) < _; omega) | (show (_ : Nat) ≠ _; omega) | (show (_ : Nat) ≤ _; omega) | exact Or.inl rfl | exact Or.inr rfl) only [hG0, hG1, hG2, hF0, hF1, hA0, hA1, xL, xC, icL, Option.bind_some, Nat.le_add_right, Nat.le_refl, if_true, if_false, and_self, true_and, and_true, or_false, false_or, or_true, true_or, and_false, false_and, not_true_eq_false, not_false_eq_true, Nat.reduceAdd, Nat.reduceLeDiff, Nat.reduceLT, Option.toList_some, Option.toList_none, List.cons_append, List.nil_append, callK_ret, callR_ret, callK_thr, decide_true, Bool.true_and, xNr, bI0, bIT, bIF, ne_eq, Classical.not_not, not_false_eq_true, false_or, List.length_nil, icM, ic_lt, ic_eq, le_nl, ↓reduceIte, Nat.lt_irrefl, ri_ws, ri_wn, ri_as, ri_an, upd_s, upd_n, rp_wi, rp_wa, rl_wi, rl_wa, rl_wp, rl_wpa, rl_wl, rp_wl, ri_wl, rp_wd, ri_wd, in_rng, Int32.lt_irrefl, Nat.not_lt_zero, pk_nc, Nat.reduceEqDiff, Nat.succ_ne_self, Nat.one_ne_zero, Nat.add_left_cancel_iff, ri_wpa, ri_wp, QModel_readsOther_0, QModel_readsOther_1, QModel_readsOther_2, icY, a0, b0, a1, a2, b2]
theorem r_W9 {l c : Nat} (hl : ri m 292 19 = ic l) (h60 : l ≤ 60) (hc : ri m 292 21 = ic c) (h : 6 * c + 5 < 192) {s : rS} (hs : s.2.1 ≤ l) : Mt (n0, S0) (d + 4) 239 [.ref (n0 + 292), .int (ic 9)] (hp n0 G (rsM m s), N, z) = some (.inl none, (hp n0 G (rsM m (rdW (ri m 300) l c 9 s)), N, z)) := by
  have k292 : kd 292 = 18 := rfl
  have e : rdW (ri m 300) l c 9 s = (opN (ri m 300) l c 1 0 s) := rfl
  rw [e]
  clear e
  have a0 := fun N z => r_N (n0 := n0) (S0 := S0) (G := G) (d := d) (N := N) (z := z) hl h60 (n := 1) (by omega) hs
  have b0 : ∀ N z, Mt (n0, S0) (d + 3) 237 [.ref (n0 + 292), .int (ic 0), .int (nuV (ri m 300) l 1 s)] (hp n0 G (rsM m (nuS (ri m 300) l 1 s)), N, z) = some (.inl none, (hp n0 G (rsM m (opN (ri m 300) l c 1 0 s)), N, z)) := fun N z => m_put (d := d + 2) hc (by omega)
  have s0 : (opN (ri m 300) l c 1 0 s).2.1 ≤ l := opN_le hs
  generalize hg0 : (opN (ri m 300) l c 1 0 s) = q0 at *
  rw [NModel_readsOther]
  simp (disch := first | assumption | (show (_ : Nat) < _; omega) | (show (_ : Nat) ≠ _; omega) | (show (_ : Nat) ≤ _; omega) | exact Or.inl rfl | exact Or.inr rfl) only [hG0, hG1, hG2, hF0, hF1, hA0, hA1, xL, xC, icL, Option.bind_some, Nat.le_add_right, Nat.le_refl, if_true, if_false, and_self, true_and, and_true, or_false, false_or, or_true, true_or, and_false, false_and, not_true_eq_false, not_false_eq_true, Nat.reduceAdd, Nat.reduceLeDiff, Nat.reduceLT, Option.toList_some, Option.toList_none, List.cons_append, List.nil_append, callK_ret, callR_ret, callK_thr, decide_true, Bool.true_and, xNr, bI0, bIT, bIF, ne_eq, Classical.not_not, not_false_eq_true, false_or, List.length_nil, icM, ic_lt, ic_eq, le_nl, ↓reduceIte, Nat.lt_irrefl, ri_ws, ri_wn, ri_as, ri_an, upd_s, upd_n, rp_wi, rp_wa, rl_wi, rl_wa, rl_wp, rl_wpa, rl_wl, rp_wl, ri_wl, rp_wd, ri_wd, in_rng, Int32.lt_irrefl, Nat.not_lt_zero, pk_nc, Nat.reduceEqDiff, Nat.succ_ne_self, Nat.one_ne_zero, Nat.add_left_cancel_iff, ri_wpa, ri_wp, QModel_readsOther_0, QModel_readsOther_1, QModel_readsOther_2, icY, a0, b0]
theorem r_W10 {l c : Nat} (hl : ri m 292 19 = ic l) (h60 : l ≤ 60) (hc : ri m 292 21 = ic c) (h : 6 * c + 5 < 192) {s : rS} (hs : s.2.1 ≤ l) : Mt (n0, S0) (d + 4) 239 [.ref (n0 + 292), .int (ic 10)] (hp n0 G (rsM m s), N, z) = some (.inl none, (hp n0 G (rsM m (rdW (ri m 300) l c 10 s)), N, z)) := by
  have k292 : kd 292 = 18 := rfl
  have e : rdW (ri m 300) l c 10 s = (opN (ri m 300) l c 3 1 (opE (ri m 300) l 32 (opN (ri m 300) l c 1 0 s))) := rfl
  rw [e]
  clear e
  have a0 := fun N z => r_N (n0 := n0) (S0 := S0) (G := G) (d := d) (N := N) (z := z) hl h60 (n := 1) (by omega) hs
  have b0 : ∀ N z, Mt (n0, S0) (d + 3) 237 [.ref (n0 + 292), .int (ic 0), .int (nuV (ri m 300) l 1 s)] (hp n0 G (rsM m (nuS (ri m 300) l 1 s)), N, z) = some (.inl none, (hp n0 G (rsM m (opN (ri m 300) l c 1 0 s)), N, z)) := fun N z => m_put (d := d + 2) hc (by omega)
  have s0 : (opN (ri m 300) l c 1 0 s).2.1 ≤ l := opN_le hs
  generalize hg0 : (opN (ri m 300) l c 1 0 s) = q0 at *
  have a1 := fun N z => r_E (n0 := n0) (S0 := S0) (G := G) (d := d + 1) (N := N) (z := z) (ch := 32) hl h60 s0
  have s1 : (opE (ri m 300) l 32 q0).2.1 ≤ l := opE_le (by omega) s0
  generalize hg1 : (opE (ri m 300) l 32 q0) = q1 at *
  have a2 := fun N z => r_N (n0 := n0) (S0 := S0) (G := G) (d := d) (N := N) (z := z) hl h60 (n := 3) (by omega) s1
  have b2 : ∀ N z, Mt (n0, S0) (d + 3) 237 [.ref (n0 + 292), .int (ic 1), .int (nuV (ri m 300) l 3 q1)] (hp n0 G (rsM m (nuS (ri m 300) l 3 q1)), N, z) = some (.inl none, (hp n0 G (rsM m (opN (ri m 300) l c 3 1 q1)), N, z)) := fun N z => m_put (d := d + 2) hc (by omega)
  have s2 : (opN (ri m 300) l c 3 1 q1).2.1 ≤ l := opN_le s1
  generalize hg2 : (opN (ri m 300) l c 3 1 q1) = q2 at *
  rw [NModel_readsOther]
  simp (disch := first | assumption | (show (_ : Nat) < _; omega) | (show (_ : Nat) ≠ _; omega) | (show (_ : Nat) ≤ _; omega) | exact Or.inl rfl | exact Or.inr rfl) only [hG0, hG1, hG2, hF0, hF1, hA0, hA1, xL, xC, icL, Option.bind_some, Nat.le_add_right, Nat.le_refl, if_true, if_false, and_self, true_and, and_true, or_false, false_or, or_true, true_or, and_false, false_and, not_true_eq_false, not_false_eq_true, Nat.reduceAdd, Nat.reduceLeDiff, Nat.reduceLT, Option.toList_some, Option.toList_none, List.cons_append, List.nil_append, callK_ret, callR_ret, callK_thr, decide_true, Bool.true_and, xNr, bI0, bIT, bIF, ne_eq, Classical.not_not, not_false_eq_true, false_or, List.length_nil, icM, ic_lt, ic_eq, le_nl, ↓reduceIte, Nat.lt_irrefl, ri_ws, ri_wn, ri_as, ri_an, upd_s, upd_n, rp_wi, rp_wa, rl_wi, rl_wa, rl_wp, rl_wpa, rl_wl, rp_wl, ri_wl, rp_wd, ri_wd, in_rng, Int32.lt_irrefl, Nat.not_lt_zero, pk_nc, Nat.reduceEqDiff, Nat.succ_ne_self, Nat.one_ne_zero, Nat.add_left_cancel_iff, ri_wpa, ri_wp, QModel_readsOther_0, QModel_readsOther_1, QModel_readsOther_2, icY, a0, b0, a1, a2, b2]
end M23
