/-! a run makes cells, it takes none away -/
def leS (σ : sS) (x : sR) : Prop := ∀ y, x = some y → match y with
  | .inl c => σ.2.1 ≤ c.2.2.2.2.1 ∧ σ.2.2 ≤ c.2.2.2.2.2
  | .inr o => σ.2.1 ≤ o.2.2.1 ∧ σ.2.2 ≤ o.2.2.2
theorem leS_none {σ : sS} : leS σ none := fun y h => nomatch h
theorem leS_nx {σ σ' : sS} {pc : Nat} {ls : sL} {st : List Value} (h1 : σ.2.1 ≤ σ'.2.1) (h2 : σ.2.2 ≤ σ'.2.2) : leS σ (nx pc ls st σ') := fun y h => by
  cases h
  exact ⟨h1, h2⟩
theorem leS_nx0 {σ : sS} {pc : Nat} {ls : sL} {st : List Value} : leS σ (nx pc ls st σ) := leS_nx (Nat.le_refl _) (Nat.le_refl _)
theorem leS_dn {σ : sS} {v : Option Value} : leS σ (dn v σ) := fun y h => by
  cases h
  exact ⟨Nat.le_refl _, Nat.le_refl _⟩
theorem leS_ite {σ : sS} {P : Prop} [Decidable P] {a b : sR} (h1 : leS σ a) (h2 : leS σ b) : leS σ (if P then a else b) := by
  split
  · exact h1
  · exact h2
theorem leS_jp {σ : sS} {pc : Nat} {off : Int} {ls : sL} {st : List Value} : leS σ (jp pc off ls st σ) := leS_ite leS_nx0 leS_none
theorem leS_bif {σ : sS} {pc : Nat} {off : Int} {ls : sL} {st : List Value} {P : Prop} [Decidable P] : leS σ (bIf pc off ls st σ P) := leS_ite (leS_ite leS_nx0 leS_nx0) leS_none
theorem leS_sif {σ : sS} {cd : ClassFile.Cond} {pc : Nat} {off : Int} {ls : sL} {st : List Value} {x y : Int32} : leS σ (sIf cd pc off ls st σ x y) := by
  cases cd <;> exact leS_bif
theorem leS_ld1 {σ : sS} {pc len i : Nat} {ls : sL} {st : List Value} {ok : Value → Bool} : leS σ (ld1 pc len ls i st σ ok) := by
  unfold ld1
  split
  · exact leS_ite leS_nx0 leS_none
  · exact leS_none
theorem leS_st1 {σ : sS} {pc len i : Nat} {ls : sL} {st : List Value} {ok : Value → Bool} : leS σ (st1 pc len ls i st σ ok) := by
  unfold st1
  split
  · exact leS_ite leS_nx0 leS_none
  · exact leS_none
theorem leS_st2 {σ : sS} {pc len i : Nat} {ls : sL} {st : List Value} {ok : Value → Bool} : leS σ (st2 pc len ls i st σ ok) := by
  unfold st2
  split
  · exact leS_ite leS_nx0 leS_none
  · exact leS_none
theorem leS_up1 {σ : sS} {pc len : Nat} {ls : sL} {st : List Value} {o : Option Value} : leS σ (up1 pc len ls st σ o) := by
  unfold up1
  split
  · exact leS_nx0
  · exact leS_none
theorem leS_uph {E : sV} {σ : sS} {a pc len : Nat} {ls : sL} {st : List Value} {o : Option sH} : leS σ (uph E a pc len ls st σ o) := by
  unfold uph
  split
  · exact leS_ite (leS_nx (Nat.le_refl _) (Nat.le_refl _)) leS_none
  · exact leS_none
theorem leS_sRet {r : gM} {σ : sS} {pc : Nat} {ls : sL} {st : List Value} {o : Option sO} (h : ∀ x, o = some x → σ.2.1 ≤ x.2.2.1 ∧ σ.2.2 ≤ x.2.2.2) : leS σ (sRet r pc ls st o) := by
  unfold sRet
  split
  · exact leS_none
  · rename_i v σ'
    exact leS_nx (h _ rfl).1 (h _ rfl).2
  · rename_i E σ'
    refine leS_ite (fun y hy => by cases hy; exact h _ rfl) ?_
    split
    · exact leS_none
    · split
      · exact leS_ite (leS_nx (h _ rfl).1 (h _ rfl).2) leS_none
      · exact leS_ite (leS_nx (h _ rfl).1 (h _ rfl).2) leS_none
      · exact leS_none
theorem leS_sRet2 {σ : sS} {pc : Nat} {ls : sL} {st : List Value} {o : Option sO} (h : ∀ x, o = some x → σ.2.1 ≤ x.2.2.1 ∧ σ.2.2 ≤ x.2.2.2) : leS σ (sRet2 pc ls st o) := by
  unfold sRet2
  split
  · exact leS_nx (h _ rfl).1 (h _ rfl).2
  · exact leS_none
theorem leS_sInv {call : Nat → List Value → sS → Option sO} {r : gM} {σ : sS} {pc : Nat} {ls : sL} {st : List Value} {inst thr : Bool} {t : Nat × Nat × Nat × Nat} (h : ∀ mi as σ x, call mi as σ = some x → σ.2.1 ≤ x.2.2.1 ∧ σ.2.2 ≤ x.2.2.2) : leS σ (sInv call r pc ls st σ inst thr t) := by
  unfold sInv
  split
  · exact leS_none
  · refine leS_ite ?_ (leS_ite (leS_ite (leS_sRet (h _ _ _)) (leS_sRet2 (h _ _ _))) leS_none)
    split
    · exact leS_ite (leS_ite (leS_sRet (h _ _ _)) (leS_sRet2 (h _ _ _))) leS_none
    · exact leS_none
set_option maxHeartbeats 4000000 in
theorem stp_mono {E : sV} {call : Nat → List Value → sS → Option sO} {r : gM} {i : Instr} {len pc : Nat} {ls : sL} {st : List Value} {σ : sS} (h : ∀ mi as σ x, call mi as σ = some x → σ.2.1 ≤ x.2.2.1 ∧ σ.2.2 ≤ x.2.2.2) : leS σ (stp E call r i len pc ls st σ) := by
  cases i <;> dsimp only [stp] <;> repeat' (first | exact leS_none | exact leS_nx0 | exact leS_dn | exact leS_jp | exact leS_bif | exact leS_sif | exact leS_ld1 | exact leS_st1 | exact leS_st2 | exact leS_up1 | exact leS_uph | exact leS_sInv h | exact leS_nx (by dsimp only; omega) (by dsimp only; omega) | refine leS_ite ?_ ?_ | (intro y hy; cases hy; dsimp only; omega) | split)
theorem runF_mono2 {E : sV} {call : Nat → List Value → sS → Option sO} {mi : Nat} (h : ∀ mi as σ x, call mi as σ = some x → σ.2.1 ≤ x.2.2.1 ∧ σ.2.2 ≤ x.2.2.2) : ∀ (n : Nat) (c : sG) (o : sO), runF E call mi n c = some o → c.2.2.2.2.1 ≤ o.2.2.1 ∧ c.2.2.2.2.2 ≤ o.2.2.2 := by
  intro n
  induction n with
  | zero => intro c o hr; simp [runF] at hr
  | succ n ih =>
    intro c o hr
    rw [runF] at hr
    have hs : leS c.2.2.2 (step E call mi c) := by
      unfold step
      split
      · exact leS_none
      · split
        · exact leS_ite (stp_mono h) leS_none
        · exact leS_none
    cases hx : step E call mi c with
    | none => rw [hx] at hr; simp at hr
    | some y =>
      rw [hx] at hr
      cases y with
      | inl c' =>
        have h1 := hs _ hx
        have h2 := ih c' o hr
        exact ⟨Nat.le_trans h1.1 h2.1, Nat.le_trans h1.2 h2.2⟩
      | inr o' =>
        cases hr
        exact hs _ hx
theorem Mt_mono (E : sV) : ∀ (d mi : Nat) (as : List Value) (σ : sS) (x : sO), Mt E d mi as σ = some x → σ.2.1 ≤ x.2.2.1 ∧ σ.2.2 ≤ x.2.2.2 := by
  intro d
  induction d with
  | zero => intro mi as σ x h; simp [Mt] at h
  | succ d ih =>
    intro mi as σ x h
    rw [Mt] at h
    split at h
    · cases h
    · split at h
      · obtain ⟨n, hn⟩ := Rn_some.mp h
        exact runF_mono2 ih n _ _ hn
      · cases h
