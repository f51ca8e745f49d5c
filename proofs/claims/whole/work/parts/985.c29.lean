/-! the JDK's StringBuilder: numbers; expanded by wip/whole/px.py out of wip/whole/c29.src -/
/-- a number's digits written at c -/
def wrN (f : Nat → Nat) (c n : Nat) : Nat → Nat := fun i => if c ≤ i ∧ i < c + dgn n then 48 + n / 10 ^ (c + dgn n - 1 - i) % 10 else f i
section C29
variable {n0 N z d : Nat} {S0 : Nat → Value} {G : sH} {m : mm}
theorem hset_id {G : sH} {a : Nat} {x : sC} (h : G a = some x) : hset G a x = G := by
  funext q
  unfold hset
  split
  · rename_i e
    rw [e, h]
  · rfl
/-- what getChars leaves -/
def GCp (c n : Nat) (g g1 : Nat → Nat) : Prop := (∀ i, i < c → g1 i = g i) ∧ (∀ i, c ≤ i → i < c + dgn n → g1 i = 48 + n / 10 ^ (c + dgn n - 1 - i) % 10) ∧ ∀ i, g1 i < 128
theorem j_getChars {n v L c : Nat} {g : Nat → Nat} (hD : isDig n0 S0 G) (hv : oA n0 v) (hG : G v = some (byA L g)) (hg : ∀ i, g i < 128) (hL : L < 1000) (hn : n < 100000) (hc : c + dgn n ≤ L) : ∃ g1, Mt (n0, S0) (d + 1) 319 [.int (ic n), .int (ic (c + dgn n)), .ref v] (hp n0 G m, N, z) = oI n0 (hset G v (byA L g1)) m N z (ic c) ∧ GCp c n g g1 := by
  have hst : Mt (n0, S0) (d + 1) 319 [.int (ic n), .int (ic (c + dgn n)), .ref v] (hp n0 G m, N, z) = Rx (n0, S0) d 319 22 [some (.int (-ic n)), some (.int (ic (c + dgn n))), some (.ref v), none, none, some (.int (ic (c + dgn n))), some (.int (ic 0))] [] (hp n0 (hset G v (byA L g)) m, N, z) := by
    rw [NInteger_getChars, hset_id hG]
    simp (disch := first | assumption | (show (_ : Nat) < _; omega) | (show (_ : Nat) ≠ _; omega) | (show (_ : Nat) ≤ _; omega) | exact Or.inl rfl | exact Or.inr rfl) only [hG0, hG1, hG2, hF0, hF1, hA0, hA1, xL, xC, icL, Option.bind_some, Nat.le_add_right, Nat.le_refl, if_true, if_false, and_self, true_and, and_true, or_false, false_or, or_true, true_or, and_false, false_and, not_true_eq_false, not_false_eq_true, Nat.reduceAdd, Nat.reduceLeDiff, Nat.reduceLT, Option.toList_some, Option.toList_none, List.cons_append, List.nil_append, callK_ret, callR_ret, callK_thr, decide_true, Bool.true_and, xNr, bI0, bIT, bIF, ne_eq, Classical.not_not, not_false_eq_true, false_or, List.length_nil, icM, ic_lt, ic_eq, le_nl, ↓reduceIte, Nat.lt_irrefl, ri_ws, ri_wn, ri_as, ri_an, upd_s, upd_n, rp_wi, rp_wa, rl_wi, rl_wa, rl_wp, rl_wpa, rl_wl, rp_wl, ri_wl, rp_wd, ri_wd, in_rng, Int32.lt_irrefl, Nat.not_lt_zero, pk_nc, Nat.reduceEqDiff, Nat.succ_ne_self, Nat.one_ne_zero, Nat.add_left_cancel_iff, ri_wpa, ri_wp, QInteger_getChars_0, QInteger_getChars_1, QInteger_getChars_2]
  have p1 : (10 : Nat) ^ 1 = 10 := rfl
  have p2 : (10 : Nat) ^ 2 = 100 := rfl
  have p3 : (10 : Nat) ^ 3 = 1000 := rfl
  have p4 : (10 : Nat) ^ 4 = 10000 := rfl
  by_cases h1 : n < 10
  · have hd : dgn n = 1 := by unfold dgn; rw [if_pos h1]
    unfold GCp
    rw [hd] at hst hc ⊢
    refine ⟨_, hst.trans (gc_end1 hD hv hL h1 hc), ?_, ?_, ?_⟩
    · intro i hi; unfold updN; rw [if_neg (by omega)]
    · intro i hi h2
      obtain rfl : i = c := by omega
      unfold updN
      rw [if_pos rfl, show i + 1 - 1 - i = 0 by omega]
      omega
    · intro i; have := hg i; unfold updN; split <;> omega
  · by_cases h2 : n < 100
    · have hd : dgn n = 2 := by unfold dgn; rw [if_neg h1, if_pos h2]
      unfold GCp
      rw [hd] at hst hc ⊢
      refine ⟨_, hst.trans (gc_end2 hD hv hL h2 (by omega) hc), ?_, ?_, ?_⟩
      · intro i hi; unfold updN; repeat' split
        all_goals omega
      · intro i hi h3
        rcases (show i = c ∨ i = c + 1 by omega) with rfl | rfl
        · rw [show i + 2 - 1 - i = 1 by omega, p1]; unfold updN; repeat' split
          all_goals omega
        · rw [show c + 2 - 1 - (c + 1) = 0 by omega]; unfold updN; repeat' split
          all_goals omega
      · intro i; have := hg i; unfold updN; repeat' split
        all_goals omega
    · by_cases h3 : n < 1000
      · have hd : dgn n = 3 := by unfold dgn; rw [if_neg h1, if_neg h2, if_pos h3]
        unfold GCp
        rw [hd] at hst hc ⊢
        refine ⟨_, hst.trans ((gc_step hD hv hL hn (by omega) (p := c + 1) hc).trans (gc_end1 hD hv hL (by omega) (by omega))), ?_, ?_, ?_⟩
        · intro i hi; unfold updN; repeat' split
          all_goals omega
        · intro i hi h3
          rcases (show i = c ∨ i = c + 1 ∨ i = c + 2 by omega) with rfl | rfl | rfl
          · rw [show i + 3 - 1 - i = 2 by omega, p2]; unfold updN; repeat' split
            all_goals omega
          · rw [show c + 3 - 1 - (c + 1) = 1 by omega, p1]; unfold updN; repeat' split
            all_goals omega
          · rw [show c + 3 - 1 - (c + 2) = 0 by omega]; unfold updN; repeat' split
            all_goals omega
        · intro i; have := hg i; unfold updN; repeat' split
          all_goals omega
      · by_cases h4 : n < 10000
        · have hd : dgn n = 4 := by unfold dgn; rw [if_neg h1, if_neg h2, if_neg h3, if_pos h4]
          unfold GCp
          rw [hd] at hst hc ⊢
          refine ⟨_, hst.trans ((gc_step hD hv hL hn (by omega) (p := c + 2) hc).trans (gc_end2 hD hv hL (by omega) (by omega) (by omega))), ?_, ?_, ?_⟩
          · intro i hi; unfold updN; repeat' split
            all_goals omega
          · intro i hi h3
            rcases (show i = c ∨ i = c + 1 ∨ i = c + 2 ∨ i = c + 3 by omega) with rfl | rfl | rfl | rfl
            · rw [show i + 4 - 1 - i = 3 by omega, p3]; unfold updN; repeat' split
              all_goals omega
            · rw [show c + 4 - 1 - (c + 1) = 2 by omega, p2]; unfold updN; repeat' split
              all_goals omega
            · rw [show c + 4 - 1 - (c + 2) = 1 by omega, p1]; unfold updN; repeat' split
              all_goals omega
            · rw [show c + 4 - 1 - (c + 3) = 0 by omega]; unfold updN; repeat' split
              all_goals omega
          · intro i; have := hg i; unfold updN; repeat' split
            all_goals omega
        · have hd : dgn n = 5 := by unfold dgn; rw [if_neg h1, if_neg h2, if_neg h3, if_neg h4]
          unfold GCp
          rw [hd] at hst hc ⊢
          refine ⟨_, hst.trans ((gc_step hD hv hL hn (by omega) (p := c + 3) hc).trans ((gc_step hD hv hL (by omega) (by omega) (p := c + 1) (by omega)).trans (gc_end1 hD hv hL (by omega) (by omega)))), ?_, ?_, ?_⟩
          · intro i hi; unfold updN; repeat' split
            all_goals omega
          · intro i hi h3
            rcases (show i = c ∨ i = c + 1 ∨ i = c + 2 ∨ i = c + 3 ∨ i = c + 4 by omega) with rfl | rfl | rfl | rfl | rfl
            · rw [show i + 5 - 1 - i = 4 by omega, p4]; unfold updN; repeat' split
              all_goals omega
            · rw [show c + 5 - 1 - (c + 1) = 3 by omega, p3]; unfold updN; repeat' split
              all_goals omega
            · rw [show c + 5 - 1 - (c + 2) = 2 by omega, p2]; unfold updN; repeat' split
              all_goals omega
            · rw [show c + 5 - 1 - (c + 3) = 1 by omega, p1]; unfold updN; repeat' split
              all_goals omega
            · rw [show c + 5 - 1 - (c + 4) = 0 by omega]; unfold updN; repeat' split
              all_goals omega
          · intro i; have := hg i; unfold updN; repeat' split
            all_goals omega
end C29
