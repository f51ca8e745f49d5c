/-! WHAT THE EVALUATOR ANSWERS, THE MACHINE DOES: ends, runs, methods -/
theorem LKx_ok {o i : Nat} {own cls : String} {ic : Nat} (ho : gO[o]? = some own) (h : LKx o i = some (cls, ic)) : own = "RepairBarrows" ∧ thOK i cls ic := by
  have hlt : o < 19 := (List.getElem?_eq_some_iff.mp ho).1
  obtain ⟨l, h1, h2⟩ := lk_mem h
  rcases (show o = 0 ∨ o = 1 ∨ o = 2 ∨ o = 3 ∨ o = 4 ∨ o = 5 ∨ o = 6 ∨ o = 7 ∨ o = 8 ∨ o = 9 ∨ o = 10 ∨ o = 11 ∨ o = 12 ∨ o = 13 ∨ o = 14 ∨ o = 15 ∨ o = 16 ∨ o = 17 ∨ o = 18 by omega) with rfl | rfl | rfl | rfl | rfl | rfl | rfl | rfl | rfl | rfl | rfl | rfl | rfl | rfl | rfl | rfl | rfl | rfl | rfl
  all_goals (cases h1)
  case inr.inr.inr.inr.inr.inr.inr.inl =>
    cases ho
    refine ⟨rfl, ?_⟩
    unfold LKx_7 at h2
    simp only [List.mem_cons, Prod.mk.injEq, List.not_mem_nil, or_false] at h2
    rcases h2 with ⟨rfl, rfl, rfl⟩ | ⟨rfl, rfl, rfl⟩ | ⟨rfl, rfl, rfl⟩ | ⟨rfl, rfl, rfl⟩ | ⟨rfl, rfl, rfl⟩ | ⟨rfl, rfl, rfl⟩
    · exact th_134
    · exact th_171
    · exact th_237
    · exact th_283
    · exact th_294
    · exact th_303
  all_goals exact absurd h2 List.not_mem_nil
section NR
variable {o : sO} {σ σ' : sS} {pc len i : Nat} {ls : sL} {st : List Value} {off : Int} {P : Prop} {E : sV} {ok : Value → Bool}
theorem nR_none : ¬ (none : sR) = some (.inr o) := fun h => nomatch h
theorem nR_nx : ¬ nx pc ls st σ = some (.inr o) := fun h => by cases h
theorem nR_ite [Decidable P] {a b : sR} (h1 : ¬ a = some (.inr o)) (h2 : ¬ b = some (.inr o)) : ¬ (if P then a else b) = some (.inr o) := by
  split
  · exact h1
  · exact h2
theorem nR_jp : ¬ jp pc off ls st σ = some (.inr o) := nR_ite nR_nx nR_none
theorem nR_bif [Decidable P] : ¬ bIf pc off ls st σ P = some (.inr o) := nR_ite (nR_ite nR_nx nR_nx) nR_none
theorem nR_sif {cd : ClassFile.Cond} {x y : Int32} : ¬ sIf cd pc off ls st σ x y = some (.inr o) := by
  cases cd <;> exact nR_bif
theorem nR_ld1 : ¬ ld1 pc len ls i st σ ok = some (.inr o) := by
  unfold ld1
  split
  · exact nR_ite nR_nx nR_none
  · exact nR_none
theorem nR_st1 : ¬ st1 pc len ls i st σ ok = some (.inr o) := by
  unfold st1
  split
  · exact nR_ite nR_nx nR_none
  · exact nR_none
theorem nR_st2 : ¬ st2 pc len ls i st σ ok = some (.inr o) := by
  unfold st2
  split
  · exact nR_ite nR_nx nR_none
  · exact nR_none
theorem nR_up1 {v : Option Value} : ¬ up1 pc len ls st σ v = some (.inr o) := by
  unfold up1
  split
  · exact nR_nx
  · exact nR_none
theorem nR_uph {a : Nat} {h : Option sH} : ¬ uph E a pc len ls st σ h = some (.inr o) := by
  unfold uph
  split
  · exact nR_ite nR_nx nR_none
  · exact nR_none
end NR
section RUN
variable {p : Program} {l : Launch} {e : Env} {R : Room} {s : State} {m : MethodId} {args : Array Value} {below : List Frame} {meth : Method} {c : Code}
variable {E : sV} {D : va_G} {dA : sDA} {r : gM} {mc ms d : Nat} {call : Nat → List Value → sS → Option sO}
abbrev sMQ (E : sV) (D : va_G) (dA : sDA) (below : List Frame) (o : sO) (args : Array Value) (s : State) (mc ms : Nat) : State → Prop := vx_MQ below (sQc E D dA o) (sXc E D dA o) args s mc ms (fun q => E.1 ≤ q)
/-- the words of a throw -/
theorem snd_thw (hC : sCx E D dA s) {ik ic : Nat} {cls : String} (h : thOK ik cls ic) : ∀ w ∈ vx_at0 "RepairBarrows" ic cls thN, w.before args s = true := by
  intro w hw
  obtain ⟨h1, h2, h3, h4, h5, h6, h7⟩ := h
  have hg := List.all_eq_true.mp h5 w hw
  simp only [Bool.or_eq_true, decide_eq_true_eq] at hg
  rcases hg with hg | hg | hg
  · rcases h7 w hw with rfl | hin
    · exact (hC.2.2.2.2.2.1 cls h1).use rfl
    · exact hC.1 args w (List.mem_filter.mpr ⟨hin, hg⟩)
  · subst hg
    exact (hC.2.2.2.2.2.1 cls h1).use rfl
  · obtain ⟨y, hy, rfl⟩ := List.mem_map.mp hg
    exact (hC.2.2.2.2.2.2.2.2.2.2.2.1 y hy).use rfl
theorem snd_end (B : sBd p l E D dA r s m meth c) (hR : R.cells = mc ∧ R.slots = ms ∧ 11 ≤ R.frames ∧ 300 ≤ R.locals)
    {i : Instr} {len pc : Nat} {ls : sL} {st : List Value} {σ : sS} {o : sO} (hni : isInv i = false) (hdg : decode r.2.1 pc = .ok (i, len)) (hlen : sLen i len = true) (hst : stp E call r i len pc ls st σ = some (.inr o)) : Gd p l e R s m args below meth c (sMQ E D dA below o args s mc ms) E D dA r.2.2.1 mc ms o.2.2.1 o.2.2.2 (pc, ls, st, σ) := by
  intro H locs lsA cells slots hS hP hn hl hz1 hz2
  obtain ⟨hx, hb, hml, hown, hC, hlocks, hret, hmn, hgo, hbs, htr, hT⟩ := B
  have hts := hC.1 args
  obtain ⟨hR1, hR2, hR3, hR4⟩ := hR
  dsimp only at hP hn hl hz1 hz2 ⊢
  have hq : ∀ (v : Option Value), o = (.inl v, σ) → ∀ t : State, t.heap = H → s.WarmedH t.vm → sQc E D dA o args s (.returned v) t := by
    rintro v rfl t ht -
    exact ⟨v, rfl, rfl, by rw [ht]; exact hP, by rw [ht]; exact hn, hS.F ht⟩
  cases i <;> dsimp only [stp] at hst
  all_goals first | (cases hni; done) | skip
  case ireturn =>
    obtain rfl : len = 1 := by simpa [sLen] using hlen
    split at hst
    · rename_i v ty hr
      split at hst
      · rename_i hnar
        cases hst
        dsimp only at hz1 hz2
        obtain rfl : cells = mc := by omega
        obtain rfl : slots = ms := by omega
        exact vx_ret (W.zret hx hb (hret.trans hr) hnar (hq _ rfl) hS.2.2 hdg hlocks)
      · cases hst
    · cases hst
  case lreturn =>
    obtain rfl : len = 1 := by simpa [sLen] using hlen
    split at hst
    · rename_i v hr
      cases hst
      dsimp only at hz1 hz2
      obtain rfl : cells = mc := by omega
      obtain rfl : slots = ms := by omega
      exact vx_ret (W.lret hx hb (hret.trans hr) (hq _ rfl) hS.2.2 hdg hlocks)
    · cases hst
  case freturn =>
    obtain rfl : len = 1 := by simpa [sLen] using hlen
    split at hst
    · rename_i v hr
      cases hst
      dsimp only at hz1 hz2
      obtain rfl : cells = mc := by omega
      obtain rfl : slots = ms := by omega
      exact vx_ret (W.fret hx hb (hret.trans hr) (hq _ rfl) hS.2.2 hdg hlocks)
    · cases hst
  case dreturn =>
    obtain rfl : len = 1 := by simpa [sLen] using hlen
    split at hst
    · rename_i v hr
      cases hst
      dsimp only at hz1 hz2
      obtain rfl : cells = mc := by omega
      obtain rfl : slots = ms := by omega
      exact vx_ret (W.dret hx hb (hret.trans hr) (hq _ rfl) hS.2.2 hdg hlocks)
    · cases hst
  case return_ =>
    obtain rfl : len = 1 := by simpa [sLen] using hlen
    split at hst
    · rename_i hr
      cases hst
      dsimp only at hz1 hz2
      obtain rfl : cells = mc := by omega
      obtain rfl : slots = ms := by omega
      exact vx_ret (W.vret hx hb (hret.trans hr) (hq _ rfl) hS.2.2 hdg hlocks)
    · cases hst
  case areturn =>
    obtain rfl : len = 1 := by simpa [sLen] using hlen
    split at hst
    · rename_i v cN hr
      split at hst
      · rename_i hv
        cases hst
        dsimp only at hz1 hz2
        obtain rfl : cells = mc := by omega
        obtain rfl : slots = ms := by omega
        exact vx_ret (W.aret hx hb (hret.trans hr) (Or.inl ⟨_, rfl⟩) (vA_inv hv) (hq _ rfl) hS.2.2 hdg hlocks)
      · cases hst
    · rename_i v cN hr
      split at hst
      · rename_i hv
        cases hst
        dsimp only at hz1 hz2
        obtain rfl : cells = mc := by omega
        obtain rfl : slots = ms := by omega
        exact vx_ret (W.aret hx hb (hret.trans hr) (Or.inr ⟨_, rfl⟩) (vA_inv hv) (hq _ rfl) hS.2.2 hdg hlocks)
      · cases hst
    · cases hst
  case new =>
    split at hst
    · split at hst
      · cases hst
      · cases hst
    · split at hst
      · rename_i cls ic hk
        split at hst
        · rename_i hc
          obtain ⟨hc0, hc1, d3, d4, d7⟩ := hc
          cases hst
          dsimp only at hz1 hz2
          obtain rfl : len = 3 := by simpa [sLen] using hlen
          obtain ⟨ho, hth⟩ := LKx_ok hgo hk
          have hwd := snd_thw (args := args) hC hth
          obtain ⟨h1, h2, h3, h4, h5, h6, h7⟩ := hth
          have hno : ∀ x ∈ c.exceptionTable.toList, covers x (pc + 7) = false := by
            rw [hT.1, hc0]
            intro x hx
            cases hx
          refine vx_throw0e (own := "RepairBarrows") (names := thN) (ik := _) (ic := ic) (mc := mc) (ms := ms) hx hb htr (by rw [← ho]; exact hown) h2 (by decide +kernel) (hts _ h3) (hts _ h4) hwd (fun w hw => List.all_eq_true.mp h6 w hw) hC.2.2.2.2.2.2.2.2.2.1 hC.2.2.2.2.2.2.2.2.2.2.1 hS (by rw [hml]; exact hl.1) hdg d3 d4 d7 hno (by show 2 + 3 < _; omega) (by show cats _ + (13 * (2 + 1) + 42) ≤ _; omega) (by omega) (by omega) hlocks ?_ hS.2.2 (by omega) (by omega)
          intro t hA hsz hcells
          refine ⟨rfl, ?_, by rw [hsz, hn], ?_⟩
          · intro a c9 h9
            exact (hP a c9 h9).imp (fun z => ⟨z.1.kept (hcells a z.1.lt), z.2⟩) (fun z => z.kept (hcells a z.lt))
          · exact ⟨by rw [hsz]; have := hS.1; omega, fun q g1 g2 => (hcells q (by have := hS.1; omega)).trans (hS.2.1 q g1 g2)⟩
        · cases hst
      · cases hst
  all_goals (refine absurd hst ?_; repeat' (first | exact nR_none | exact nR_nx | exact nR_jp | exact nR_bif | exact nR_sif | exact nR_ld1 | exact nR_st1 | exact nR_st2 | exact nR_up1 | exact nR_uph | refine nR_ite ?_ ?_ | split))
end RUN
