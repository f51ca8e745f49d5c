/-! the reference's reader goes on; expanded by wip/whole/px.py out of wip/whole/m25.src -/
/-- a step of the reader: on, within the text, wrong for ever -/
def rGd (l : Nat) (s s2 : rS) : Prop := s.2.1 ≤ s2.2.1 ∧ (s.2.1 ≤ l → s2.2.1 ≤ l) ∧ (s2.2.2 = false → s.2.2 = false)
theorem rGd.trans {l : Nat} {a b c : rS} (h1 : rGd l a b) (h2 : rGd l b c) : rGd l a c := ⟨Nat.le_trans h1.1 h2.1, fun h => h2.2.1 (h1.2.1 h), fun h => h1.2.2 (h2.2.2 h)⟩
theorem nuF_ge {t : Nat → Int32} {l : Nat} {b : Bool} : ∀ f p v, p ≤ (nuF t l b f p v).2 := by
  intro f
  induction f with
  | zero => intro p v; exact Nat.le_refl _
  | succ f ih =>
    intro p v
    unfold nuF
    split
    · have := ih (p + 1) (ic 10 * v + t p - ic 48); omega
    · exact Nat.le_refl _
theorem rGd_N {t : Nat → Int32} {l c n o : Nat} {s : rS} : rGd l s (opN t l c n o s) := by
  refine ⟨nuF_ge _ _ _, fun h => opN_le h, fun h => ?_⟩
  have h2 : nuB t l s.2.1 s.2.2 = false := h
  unfold nuB at h2
  cases hb : s.2.2 with
  | false => rfl
  | true => rw [hb] at h2; simp at h2
theorem rGd_E {t : Nat → Int32} {l ch : Nat} (hch : ch < 1000) {s : rS} : rGd l s (opE t l ch s) := by
  refine ⟨?_, fun h => opE_le hch h, fun h => ?_⟩
  · show s.2.1 ≤ if exB t l s.2.1 s.2.2 (ic ch) then s.2.1 else s.2.1 + 1
    split <;> omega
  · have h2 : exB t l s.2.1 s.2.2 (ic ch) = false := h
    unfold exB at h2
    cases hb : s.2.2 with
    | false => rfl
    | true => rw [hb] at h2; simp at h2
theorem rGd_K {t : Nat → Int32} {l c o : Nat} {s : rS} : rGd l s (opK t l c o s) := by
  refine ⟨?_, fun h => opK_le h, fun h => ?_⟩
  · show s.2.1 ≤ if kmB t l s.2.1 s.2.2 then s.2.1 else s.2.1 + 1
    split <;> omega
  · have h2 : kmB t l s.2.1 s.2.2 = false := h
    unfold kmB at h2
    cases hb : s.2.2 with
    | false => rfl
    | true => rw [hb] at h2; simp at h2
theorem rGd_r {l : Nat} {s : rS} : rGd l s s := ⟨Nat.le_refl _, fun h => h, fun h => h⟩
theorem gN {t : Nat → Int32} {l c n o : Nat} {s a : rS} (h : rGd l s a) : rGd l s (opN t l c n o a) := h.trans rGd_N
theorem gE {t : Nat → Int32} {l ch : Nat} (hch : ch < 1000) {s a : rS} (h : rGd l s a) : rGd l s (opE t l ch a) := h.trans (rGd_E hch)
theorem gK {t : Nat → Int32} {l c o : Nat} {s a : rS} (h : rGd l s a) : rGd l s (opK t l c o a) := h.trans rGd_K
theorem rGd_W {t : Nat → Int32} {l c k : Nat} {s : rS} : rGd l s (rdW t l c k s) := by
  unfold rdW
  by_cases h0 : k = 0
  · rw [if_pos h0]
    exact gN (gE (by omega) (gN (gE (by omega) (gN (gK (gE (by omega) (gN (gE (by omega) (gN rGd_r)))))))))
  rw [if_neg h0]
  by_cases h1 : k = 1
  · rw [if_pos h1]
    exact gN rGd_r
  rw [if_neg h1]
  by_cases h2 : k = 2
  · rw [if_pos h2]
    exact gN (gE (by omega) (gN rGd_r))
  rw [if_neg h2]
  by_cases h3 : k = 3
  · rw [if_pos h3]
    exact gN rGd_r
  rw [if_neg h3]
  by_cases h4 : k = 4
  · rw [if_pos h4]
    exact gN (gK rGd_r)
  rw [if_neg h4]
  by_cases h5 : k = 5
  · rw [if_pos h5]
    exact gN (gK (gN rGd_r))
  rw [if_neg h5]
  by_cases h6 : k = 6
  · rw [if_pos h6]
    exact gN (gN rGd_r)
  rw [if_neg h6]
  by_cases h7 : k = 7
  · rw [if_pos h7]
    exact gN (gN rGd_r)
  rw [if_neg h7]
  by_cases h8 : k = 8
  · rw [if_pos h8]
    exact gN (gE (by omega) (gN rGd_r))
  rw [if_neg h8]
  by_cases h9 : k = 9
  · rw [if_pos h9]
    exact gN rGd_r
  rw [if_neg h9]
  exact gN (gE (by omega) (gN rGd_r))
theorem mtF_3 {t : Nat → Int32} {l p w : Nat} (hw : w < 11) (h : spF w (mtF t l p w 6 0) = 0) : 3 ≤ mtF t l p w 6 0 := by
  have hd : ∀ w, w < 11 → ∀ k, k < 3 → ¬ spF w k = 0 := by decide
  by_cases h3 : mtF t l p w 6 0 < 3
  · exact absurd h (hd w hw _ h3)
  · omega
theorem wdF_3 {t : Nat → Int32} {l p : Nat} : ∀ f w lo k, w + f = 11 → (wdF t l p f w lo).1 = some k → p + 3 ≤ (wdF t l p f w lo).2 := by
  intro f
  induction f with
  | zero => intro w lo k _ h; cases h
  | succ f ih =>
    intro w lo k hf h
    unfold wdF at h ⊢
    split at h
    · rename_i h2
      rw [if_pos h2]
      have := mtF_3 (by omega) h2
      show p + 3 ≤ p + _
      omega
    · rename_i h2
      rw [if_neg h2]
      exact ih _ _ k (by omega) h
theorem wdF_p {t : Nat → Int32} {l p : Nat} : ∀ f w lo, p ≤ (wdF t l p f w lo).2 := by
  intro f
  induction f with
  | zero => intro w lo; show p ≤ p + lo; omega
  | succ f ih =>
    intro w lo
    unfold wdF
    split
    · show p ≤ p + _; omega
    · exact ih _ _
theorem rGd_w {t : Nat → Int32} {l : Nat} {s : rS} : s.2.1 ≤ (cmW t l s).2.2.1 ∧ ((cmW t l s).2.2.2 = false → s.2.2 = false ∧ s.2.1 + 3 ≤ (cmW t l s).2.2.1) := by
  have h1 := wdF_p (t := t) (l := l) (p := s.2.1) 11 0 0
  have h2 := wdF_3 (t := t) (l := l) (p := s.2.1) 11 0 0
  unfold cmW
  rcases hw : (wdF t l s.2.1 11 0 0).1 with _ | w
  · exact ⟨h1, fun h => by cases h⟩
  · exact ⟨h1, fun h => ⟨h, h2 w rfl hw⟩⟩
theorem cmS_g {t : Nat → Int32} {l c : Nat} {s : rS} (hs : s.2.1 ≤ l) : s.2.1 ≤ (cmS t l c s).2.1 ∧ (cmS t l c s).2.1 ≤ l ∧ ((cmS t l c s).2.2 = false → s.2.2 = false ∧ s.2.1 + 4 ≤ (cmS t l c s).2.1) := by
  obtain ⟨q1, q2⟩ := cmW_l (t := t) hs
  obtain ⟨w1, w2⟩ := rGd_w (t := t) (l := l) (s := s)
  have e1 := rGd_E (t := t) (l := l) (ch := 32) (by omega) (s := (cmW t l s).2)
  have e2 := rGd_W (t := t) (l := l) (c := c) (k := (cmW t l s).1) (s := opE t l 32 (cmW t l s).2)
  have e3 := e1.trans e2
  refine ⟨Nat.le_trans w1 e3.1, e3.2.1 q1, fun h => ?_⟩
  have h1 : (opE t l 32 (cmW t l s).2).2.2 = false := e2.2.2 h
  have h2 := w2 (e3.2.2 h)
  refine ⟨h2.1, ?_⟩
  have h3 : (opE t l 32 (cmW t l s).2).2.1 = (cmW t l s).2.2.1 + 1 := by
    show (if exB t l _ _ (ic 32) then _ else _) = _
    have h4 : exB t l (cmW t l s).2.2.1 (cmW t l s).2.2.2 (ic 32) = false := h1
    rw [h4]
    rfl
  have h5 : (opE t l 32 (cmW t l s).2).2.1 ≤ (cmS t l c s).2.1 := e2.1
  omega
/-- the commands behind the first -/
def paF (t : Nat → Int32) (l : Nat) : Nat → mm → Nat → rS → mm × Nat × rS
  | 0, m, c, s => (m, c, s)
  | f + 1, m, c, s => if mkF t l s.2.1 s.2.2 = ic 59 then paF t l f (if (cmS t l c (s.1, s.2.1 + 1, s.2.2)).2.2 then m else cmB m c (cmW t l (s.1, s.2.1 + 1, s.2.2)).1) (if (cmS t l c (s.1, s.2.1 + 1, s.2.2)).2.2 then c else c + 1) (cmS t l c (s.1, s.2.1 + 1, s.2.2)) else (m, c, s)
theorem cmB_o (m : mm) (c k : Nat) : ri (cmB m c k) 300 = ri m 300 ∧ (∀ i, i ≠ 21 → ri (cmB m c k) 292 i = ri m 292 i) ∧ ri (cmB m c k) 292 21 = ic (c + 1) := by
  unfold cmB
  refine ⟨?_, fun i hi => ?_, ?_⟩
  · rw [ri_wn _ _ _ (by decide), ri_wn _ _ _ (by decide)]
  · rw [ri_ws, upd_n _ _ hi, ri_wn _ _ _ (by decide)]
  · rw [ri_ws, upd_s]
section M25
variable {n0 N z d : Nat} {S0 : Nat → Value} {G : sH} {m : mm}
theorem rs_w20 {s : rS} {q : Nat} : wi (rsM m s) 292 20 (ic q) = rsM m (s.1, q, s.2.2) := psR_w20
theorem r_mark {l : Nat} (hl : ri m 292 19 = ic l) (h60 : l ≤ 60) {s : rS} (hs : s.2.1 ≤ l) : Mt (n0, S0) (d + 1) 234 [.ref (n0 + 292)] (hp n0 G (rsM m s), N, z) = oI n0 G (rsM m s) N z (mkF (ri m 300) l s.2.1 s.2.2) := by
  have h := m_mark (n0 := n0) (S0 := S0) (G := G) (d := d) (N := N) (z := z) (m := wa m 302 s.1) (b := s.2.2) (l := l) (p := s.2.1) (by rw [ri_an _ _ (by decide)]; exact hl) h60 (by omega)
  rw [ri_an _ _ (by decide)] at h
  exact h
theorem m_paLoop {l : Nat} {t : Nat → Int32} (h60 : l ≤ 60) : ∀ f (m : mm) c (s : rS), ri m 300 = t → ri m 292 19 = ic l → ri m 292 21 = ic c → s.2.1 ≤ l → l < s.2.1 + f → (s.2.2 = false → 4 * c ≤ s.2.1) → ∀ N z, Rx (n0, S0) (d + 5) 228 32 [some (.ref (n0 + 292))] [] (hp n0 G (rsM m s), N, z) = Rx (n0, S0) (d + 5) 228 58 [some (.ref (n0 + 292))] [] (hp n0 G (rsM (paF t l f m c s).1 (paF t l f m c s).2.2), N, z) := by
  have k292 : kd 292 = 18 := rfl
  intro f
  induction f with
  | zero => intro m c s h1 h2 h3 h4 h5; omega
  | succ f ih =>
    intro m c s ht hl hc hs hf h4c N z
    have hmk := r_mark (n0 := n0) (S0 := S0) (G := G) (d := d + 4) (N := N) (z := z) hl h60 hs
    rw [ht] at hmk
    have g20 : ri (rsM m s) 292 20 = ic s.2.1 := psR_20
    have w20 : wi (rsM m s) 292 20 (ic (s.2.1 + 1)) = rsM m (s.1, s.2.1 + 1, s.2.2) := rs_w20
    unfold paF
    rw [HModel_parse_32_0]
    by_cases h : mkF t l s.2.1 s.2.2 = ic 59
    · rw [if_pos h]
      have hpl : s.2.2 = false ∧ s.2.1 < l := by
        unfold mkF at h
        by_cases h9 : s.2.2 = false ∧ s.2.1 < l
        · exact h9
        · rw [if_neg h9] at h; exact absurd h (by decide)
      have h4 := h4c hpl.1
      have hg := cmS_g (t := t) (l := l) (c := c) (s := (s.1, s.2.1 + 1, s.2.2)) hpl.2
      have hcm := m_command (n0 := n0) (S0 := S0) (G := G) (d := d) (N := N) (z := z) hl h60 hc (by omega) (s := (s.1, s.2.1 + 1, s.2.2)) hpl.2
      rw [ht] at hcm
      have hgo : ∀ m2 c2, ri m2 300 = t → ri m2 292 19 = ic l → ri m2 292 21 = ic c2 → ((cmS t l c (s.1, s.2.1 + 1, s.2.2)).2.2 = false → 4 * c2 ≤ (cmS t l c (s.1, s.2.1 + 1, s.2.2)).2.1) → Rx (n0, S0) (d + 5) 228 32 [some (.ref (n0 + 292))] [] (hp n0 G (rsM m2 (cmS t l c (s.1, s.2.1 + 1, s.2.2))), N, z) = _ := fun m2 c2 a1 a2 a3 a4 => ih m2 c2 _ a1 a2 a3 hg.2.1 (by have h8 : s.2.1 + 1 ≤ (cmS t l c (s.1, s.2.1 + 1, s.2.2)).2.1 := hg.1; omega) a4 N z
      obtain ⟨b1, b2, b3⟩ := cmB_o m c (cmW t l (s.1, s.2.1 + 1, s.2.2)).1
      rcases hb : (cmS t l c (s.1, s.2.1 + 1, s.2.2)).2.2 with _ | _
      · rw [hb] at hcm
        rw [if_neg (by decide)] at hcm ⊢
        rw [if_neg (by decide)]
        have hi := hgo (cmB m c (cmW t l (s.1, s.2.1 + 1, s.2.2)).1) (c + 1) (b1.trans ht) ((b2 19 (by decide)).trans hl) b3 (fun _ => by have h8 : s.2.1 + 1 + 4 ≤ (cmS t l c (s.1, s.2.1 + 1, s.2.2)).2.1 := (hg.2.2 hb).2; omega)
        rw [← hi]
        simp (disch := first | assumption | (show (_ : Nat) < _; omega) | (show (_ : Nat) ≠ _; omega) | (show (_ : Nat) ≤ _; omega) | exact Or.inl rfl | exact Or.inr rfl) only [hG0, hG1, hG2, hF0, hF1, hA0, hA1, xL, xC, icL, Option.bind_some, Nat.le_add_right, Nat.le_refl, if_true, if_false, and_self, true_and, and_true, or_false, false_or, or_true, true_or, and_false, false_and, not_true_eq_false, not_false_eq_true, Nat.reduceAdd, Nat.reduceLeDiff, Nat.reduceLT, Option.toList_some, Option.toList_none, List.cons_append, List.nil_append, callK_ret, callR_ret, callK_thr, decide_true, Bool.true_and, xNr, bI0, bIT, bIF, ne_eq, Classical.not_not, not_false_eq_true, false_or, List.length_nil, icM, ic_lt, ic_eq, le_nl, ↓reduceIte, Nat.lt_irrefl, ri_ws, ri_wn, ri_as, ri_an, upd_s, upd_n, rp_wi, rp_wa, rl_wi, rl_wa, rl_wp, rl_wpa, rl_wl, rp_wl, ri_wl, rp_wd, ri_wd, in_rng, Int32.lt_irrefl, Nat.not_lt_zero, pk_nc, Nat.reduceEqDiff, Nat.succ_ne_self, Nat.one_ne_zero, Nat.add_left_cancel_iff, ri_wpa, ri_wp, QModel_parse_0, QModel_parse_1, QModel_parse_2, hmk, h, g20, ic_add, w20, hcm]
      · rw [hb] at hcm
        rw [if_pos rfl] at hcm ⊢
        rw [if_pos rfl]
        have hi := hgo m c ht hl hc (fun e => by rw [hb] at e; cases e)
        rw [← hi]
        simp (disch := first | assumption | (show (_ : Nat) < _; omega) | (show (_ : Nat) ≠ _; omega) | (show (_ : Nat) ≤ _; omega) | exact Or.inl rfl | exact Or.inr rfl) only [hG0, hG1, hG2, hF0, hF1, hA0, hA1, xL, xC, icL, Option.bind_some, Nat.le_add_right, Nat.le_refl, if_true, if_false, and_self, true_and, and_true, or_false, false_or, or_true, true_or, and_false, false_and, not_true_eq_false, not_false_eq_true, Nat.reduceAdd, Nat.reduceLeDiff, Nat.reduceLT, Option.toList_some, Option.toList_none, List.cons_append, List.nil_append, callK_ret, callR_ret, callK_thr, decide_true, Bool.true_and, xNr, bI0, bIT, bIF, ne_eq, Classical.not_not, not_false_eq_true, false_or, List.length_nil, icM, ic_lt, ic_eq, le_nl, ↓reduceIte, Nat.lt_irrefl, ri_ws, ri_wn, ri_as, ri_an, upd_s, upd_n, rp_wi, rp_wa, rl_wi, rl_wa, rl_wp, rl_wpa, rl_wl, rp_wl, ri_wl, rp_wd, ri_wd, in_rng, Int32.lt_irrefl, Nat.not_lt_zero, pk_nc, Nat.reduceEqDiff, Nat.succ_ne_self, Nat.one_ne_zero, Nat.add_left_cancel_iff, ri_wpa, ri_wp, QModel_parse_0, QModel_parse_1, QModel_parse_2, hmk, h, g20, ic_add, w20, hcm]
    · rw [if_neg h]
      simp (disch := first | assumption | (show (_ : Nat) < _; omega) | (show (_ : Nat) ≠ _; omega) | (show (_ : Nat) ≤ _; omega) | exact Or.inl rfl | exact Or.inr rfl) only [hG0, hG1, hG2, hF0, hF1, hA0, hA1, xL, xC, icL, Option.bind_some, Nat.le_add_right, Nat.le_refl, if_true, if_false, and_self, true_and, and_true, or_false, false_or, or_true, true_or, and_false, false_and, not_true_eq_false, not_false_eq_true, Nat.reduceAdd, Nat.reduceLeDiff, Nat.reduceLT, Option.toList_some, Option.toList_none, List.cons_append, List.nil_append, callK_ret, callR_ret, callK_thr, decide_true, Bool.true_and, xNr, bI0, bIT, bIF, ne_eq, Classical.not_not, not_false_eq_true, false_or, List.length_nil, icM, ic_lt, ic_eq, le_nl, ↓reduceIte, Nat.lt_irrefl, ri_ws, ri_wn, ri_as, ri_an, upd_s, upd_n, rp_wi, rp_wa, rl_wi, rl_wa, rl_wp, rl_wpa, rl_wl, rp_wl, ri_wl, rp_wd, ri_wd, in_rng, Int32.lt_irrefl, Nat.not_lt_zero, pk_nc, Nat.reduceEqDiff, Nat.succ_ne_self, Nat.one_ne_zero, Nat.add_left_cancel_iff, ri_wpa, ri_wp, QModel_parse_0, QModel_parse_1, QModel_parse_2, hmk, h]
end M25
