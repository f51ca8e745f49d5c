/-! the objects' making: the heap as a block of places; expanded by px.py out of k1.src -/
def bk (G : sH) (n0 J : Nat) (f : Nat → sC) : sH := fun q => if n0 ≤ q ∧ q < n0 + J then some (f (q - n0)) else G q
def uC (f : Nat → sC) (i : Nat) (x : sC) : Nat → sC := fun k => if k = i then x else f k
def pfc (x : sC) (c t : Nat) (v : Value) : Option sC := match x with
  | .inr (c', fs) => if c' = c ∧ t < fs.length then some (.inr (c, fs.set t v)) else none
  | _ => none
def gfc (x : sC) (c t : Nat) : Option Value := match x with
  | .inr (c', fs) => if c' = c then fs[t]? else none
  | _ => none
section K1
variable {n0 N z d J i b : Nat} {S0 : Nat → Value} {G : sH} {f g : Nat → sC}
theorem uC_s (x : sC) : uC f i x i = x := if_pos rfl
theorem uC_n {k : Nat} (x : sC) (h : k ≠ i) : uC f i x k = f k := if_neg h
theorem uC_u (x y : sC) : uC (uC f i x) i y = uC f i y := by
  funext k
  unfold uC
  by_cases h : k = i
  · rw [if_pos h, if_pos h]
  · rw [if_neg h, if_neg h, if_neg h]
theorem pfc_o (c t : Nat) (fs : List Value) (v : Value) : pfc (.inr (c, fs)) c t v = if t < fs.length then some (.inr (c, fs.set t v)) else none := by
  unfold pfc
  simp
theorem gfc_o (c t : Nat) (fs : List Value) : gfc (.inr (c, fs)) c t = fs[t]? := if_pos rfl
theorem bk_at (h : i < J) : bk G n0 J f (n0 + i) = some (f i) := by
  unfold bk
  rw [if_pos ⟨by omega, by omega⟩, Nat.add_sub_cancel_left]
theorem bk_out {q : Nat} (h : q < n0) : bk G n0 J f q = G q := if_neg (by omega)
theorem bk_ext (h : ∀ k, k < J → f k = g k) : bk G n0 J f = bk G n0 J g := by
  funext q
  unfold bk
  by_cases hq : n0 ≤ q ∧ q < n0 + J
  · rw [if_pos hq, if_pos hq, h _ (by omega)]
  · rw [if_neg hq, if_neg hq]
theorem bk_set {x : sC} (hi : i < J) (h : g i = x) (hf : ∀ k, k < J → k ≠ i → g k = f k) : hset (bk G n0 J f) (n0 + i) x = bk G n0 J g := by
  funext q
  unfold hset bk
  by_cases hq : q = n0 + i
  · subst hq
    rw [if_pos rfl, if_pos ⟨by omega, by omega⟩, Nat.add_sub_cancel_left, h]
  · rw [if_neg hq]
    by_cases h2 : n0 ≤ q ∧ q < n0 + J
    · rw [if_pos h2, if_pos h2, hf _ (by omega) (by omega)]
    · rw [if_neg h2, if_neg h2]
theorem bk_new {x : sC} (h : g J = x) (hf : ∀ k, k < J → g k = f k) : hset (bk G n0 J f) (n0 + J) x = bk G n0 (J + 1) g := by
  funext q
  unfold hset bk
  by_cases hq : q = n0 + J
  · subst hq
    rw [if_pos rfl, if_pos ⟨by omega, by omega⟩, Nat.add_sub_cancel_left, h]
  · rw [if_neg hq]
    by_cases h2 : n0 ≤ q ∧ q < n0 + J
    · rw [if_pos h2, if_pos ⟨h2.1, by omega⟩, hf _ (by omega)]
    · rw [if_neg h2, if_neg (by omega)]
theorem bk_newu (x : sC) : hset (bk G n0 J f) (n0 + J) x = bk G n0 (J + 1) (uC f J x) := bk_new (uC_s x) (fun k hk => uC_n x (by omega))
theorem bk_pfu (hi : i < J) (c t : Nat) (v : Value) : pf (bk G n0 J f) (n0 + i) c t v = (pfc (f i) c t v).map (fun x => bk G n0 J (uC f i x)) := by
  unfold pf pfc
  rw [bk_at hi]
  cases f i with
  | inl y => rfl
  | inr y =>
    obtain ⟨c', fs⟩ := y
    dsimp only
    by_cases h : c' = c ∧ t < fs.length
    · rw [if_pos h, if_pos h, bk_set hi (uC_s _) (fun k _ hk => uC_n _ hk)]
      rfl
    · rw [if_neg h, if_neg h]
      rfl
theorem bk_gfu (hi : i < J) (c t : Nat) : gf (bk G n0 J f) (n0 + i) c t = gfc (f i) c t := by
  unfold gf gfc
  rw [bk_at hi]
  cases f i with
  | inl y => rfl
  | inr y => rfl
theorem bk_astR {n c v : Nat} {fs : List Value} {q : vw_C} {a : Nat → Option Nat} {j : Nat} (hi : i < J) (hv : v < J) (h1 : f i = .inl (.object q.1, (n, .inr (.inr (.inr (.inr a)))))) (h2 : f v = .inr (c, fs)) (hq : gC[c]? = some q) (hj : j < n) (hn : n < 2147483648) (h3 : g i = .inl (.object q.1, (n, .inr (.inr (.inr (.inr (va_up a j (some (n0 + v))))))))) (hf : ∀ k, k < J → k ≠ i → g k = f k) : astR (bk G n0 J f) (n0 + i) (ic j) (n0 + v) = some (bk G n0 J g) := by
  unfold astR
  rw [bk_at hi, bk_at hv, h1, h2]
  have h9 : ¬ (ic j < 0 ∨ n ≤ j) := fun z => z.elim (ic_nn (by omega)) (by omega)
  simp only [hq, if_true, ic_nat (show j < 2147483648 by omega), h9, if_false]
  rw [bk_set hi h3 hf]
theorem bk_astI {n : Nat} {a : Nat → Int32} {v : Int32} {j : Nat} (hi : i < J) (h1 : f i = .inl (.int, (n, .inl a))) (hj : j < n) (hn : n < 2147483648) (h3 : g i = .inl (.int, (n, .inl (upd a j v)))) (hf : ∀ k, k < J → k ≠ i → g k = f k) : astI .int (bk G n0 J f) (n0 + i) (ic j) v = some (bk G n0 J g) := by
  unfold astI
  rw [bk_at hi, h1]
  have h9 : ¬ (ic j < 0 ∨ n ≤ j) := fun z => z.elim (ic_nn (by omega)) (by omega)
  simp only [if_true, ic_nat (show j < 2147483648 by omega), h9, if_false]
  rw [← bk_set hi h3 hf]
  rfl
def j0K : sC := .inr (3, [.int (ic 0), .int (ic 0), .int (ic 0), .int (ic 0), .int (ic 0), .int (ic 0), .int (ic 0), .int (ic 0)])
def jbK : sC := .inr (3, [.int (ic 0), .int (ic 0), .int (ic 0), .int (ic 0), .int (ic 0), .int (ic 0), .int (ic 0), .int (-ic 1)])
theorem c_Job_init (hg0 : g b = jbK) : Mt (n0, S0) (d + 1) 14 [.ref (n0 + b)] (bk G n0 (b + 1) (uC g b j0K), N, z) = some (.inl none, (bk G n0 (b + 1) g, N, z)) := by
  have hpf : pf (bk G n0 (b + 1) (uC g b j0K)) (n0 + b) 3 7 (.int (-ic 1)) = some (bk G n0 (b + 1) g) := by
    have e : pfc j0K 3 7 (.int (-ic 1)) = some jbK := by
      unfold j0K
      rw [pfc_o, if_pos (by decide)]
      rfl
    rw [bk_pfu (by omega), uC_s, e]
    show some (bk G n0 (b + 1) (uC (uC g b j0K) b jbK)) = _
    rw [uC_u]
    refine congrArg some (bk_ext (fun k _ => ?_))
    by_cases h : k = b
    · rw [h, uC_s, hg0]
    · rw [uC_n _ h]
  rw [NJob_init]
  simp (disch := first | assumption | (show (_ : Nat) < _; omega) | (show (_ : Nat) ≠ _; omega) | (show (_ : Nat) ≤ _; omega) | exact Or.inl rfl | exact Or.inr rfl) only [hG0, hG1, hG2, hF0, hF1, hA0, hA1, xL, xC, icL, Option.bind_some, Nat.le_add_right, Nat.le_refl, if_true, if_false, and_self, true_and, and_true, or_false, false_or, or_true, true_or, and_false, false_and, not_true_eq_false, not_false_eq_true, Nat.reduceAdd, Nat.reduceLeDiff, Nat.reduceLT, Option.toList_some, Option.toList_none, List.cons_append, List.nil_append, callK_ret, callR_ret, callK_thr, decide_true, Bool.true_and, xNr, bI0, bIT, bIF, ne_eq, Classical.not_not, not_false_eq_true, false_or, List.length_nil, icM, ic_lt, ic_eq, le_nl, ↓reduceIte, Nat.lt_irrefl, ri_ws, ri_wn, ri_as, ri_an, upd_s, upd_n, rp_wi, rp_wa, rl_wi, rl_wa, rl_wp, rl_wpa, rl_wl, rp_wl, ri_wl, rp_wd, ri_wd, in_rng, Int32.lt_irrefl, Nat.not_lt_zero, pk_nc, Nat.reduceEqDiff, Nat.succ_ne_self, Nat.one_ne_zero, Nat.add_left_cancel_iff, ri_wpa, ri_wp, QJob_init_0, hpf]
theorem c_Barrow_init (hf : f b = .inr (0, [.int (ic 0), .int (ic 0), .int (ic 0), .int (ic 0), .null])) (hg0 : g b = .inr (0, [.int (ic 0), .int (ic 0), .int (ic 0), .int (ic 0), .ref (n0 + (b + 1))])) (hg1 : g (b + 1) = .inl (.int, (4, .inl (fun _ => ic 0)))) (hg : ∀ k, k < b → g k = f k) : Mt (n0, S0) (d + 1) 0 [.ref (n0 + b)] (bk G n0 (b + 1) f, n0 + (b + 1), z) = some (.inl none, (bk G n0 (b + 2) g, n0 + (b + 2), z + 4)) := by
  have hcb : componentBytes .int = 4 := rfl
  have hnew : hset (bk G n0 (b + 1) f) (n0 + (b + 1)) (.inl (.int, (4, .inl (fun _ => ic 0)))) = bk G n0 (b + 2) (uC g b (f b)) := bk_new (by rw [uC_n _ (by omega)]; exact hg1) (fun k hk => by
    by_cases h : k = b
    · rw [h, uC_s]
    · rw [uC_n _ h]; exact hg k (by omega))
  have hpf : pf (bk G n0 (b + 2) (uC g b (f b))) (n0 + b) 0 4 (.ref (n0 + (b + 1))) = some (bk G n0 (b + 2) g) := by
    have e : pfc (f b) 0 4 (.ref (n0 + (b + 1))) = some (g b) := by
      rw [hf, hg0, pfc_o, if_pos (by decide)]
      rfl
    rw [bk_pfu (by omega), uC_s, e]
    show some (bk G n0 (b + 2) (uC (uC g b (f b)) b (g b))) = _
    rw [uC_u]
    refine congrArg some (bk_ext (fun k _ => ?_))
    by_cases h : k = b
    · rw [h, uC_s]
    · rw [uC_n _ h]
  rw [NBarrow_init]
  simp (disch := first | assumption | (show (_ : Nat) < _; omega) | (show (_ : Nat) ≠ _; omega) | (show (_ : Nat) ≤ _; omega) | exact Or.inl rfl | exact Or.inr rfl) only [hG0, hG1, hG2, hF0, hF1, hA0, hA1, xL, xC, icL, Option.bind_some, Nat.le_add_right, Nat.le_refl, if_true, if_false, and_self, true_and, and_true, or_false, false_or, or_true, true_or, and_false, false_and, not_true_eq_false, not_false_eq_true, Nat.reduceAdd, Nat.reduceLeDiff, Nat.reduceLT, Option.toList_some, Option.toList_none, List.cons_append, List.nil_append, callK_ret, callR_ret, callK_thr, decide_true, Bool.true_and, xNr, bI0, bIT, bIF, ne_eq, Classical.not_not, not_false_eq_true, false_or, List.length_nil, icM, ic_lt, ic_eq, le_nl, ↓reduceIte, Nat.lt_irrefl, ri_ws, ri_wn, ri_as, ri_an, upd_s, upd_n, rp_wi, rp_wa, rl_wi, rl_wa, rl_wp, rl_wpa, rl_wl, rp_wl, ri_wl, rp_wd, ri_wd, in_rng, Int32.lt_irrefl, Nat.not_lt_zero, pk_nc, Nat.reduceEqDiff, Nat.succ_ne_self, Nat.one_ne_zero, Nat.add_left_cancel_iff, ri_wpa, ri_wp, QBarrow_init_0, hcb, ic_nat, hnew, hpf, Nat.reduceMul, Nat.add_assoc]
end K1
