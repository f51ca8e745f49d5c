/-! one instruction of the evaluator is one of the machine -/
def sTab (r : gM) (c : Code) : Prop := c.exceptionTable.toList = r.2.2.2.2.2.map (fun x => ({ startPc := x.1, endPc := x.2.1, handlerPc := x.2.2.1, catchType := x.2.2.2.1 } : ExceptionTableEntry)) ∧ ∀ x ∈ r.2.2.2.2.2, x.2.2.2.1 ≠ 0 ∧ Cond.classLink r.1.cls x.2.2.2.1 x.2.2.2.2 ∈ TB ∧ x.2.2.2.2 ∈ XN
def sBd (p : Program) (l : Launch) (E : sV) (D : va_G) (dA : sDA) (r : gM) (s : State) (m : MethodId) (meth : Method) (c : Code) : Prop :=
  p.tables.exec = Jvm.exec ∧ c.code = r.2.1 ∧ c.maxLocals = r.2.2.1 ∧ s.vm.findClass r.1.cls = some m.cls ∧ sCx E D dA s ∧ meth.locks = false ∧ meth.sig.returnType = r.2.2.2.1 ∧ meth.name = r.1.name ∧ gO[r.2.2.2.2.1]? = some r.1.cls ∧ E.1 ≤ s.heap.size ∧ l.stackTraces = false ∧ sTab r c
def Gd (p : Program) (l : Launch) (e : Env) (R : Room) (s : State) (m : MethodId) (args : Array Value) (below : List Frame) (meth : Method) (c : Code) (Q : State → Prop) (E : sV) (D : va_G) (dA : sDA) (nL mc ms oN oK : Nat) (g : sG) : Prop :=
  ∀ (H : Heap) (locs : List Loc) (lsA : Array Slot) (cells slots : Nat), va_S (fun q => E.1 ≤ q) s.heap H locs → sP D dA g.2.2.2.1 H → H.size = g.2.2.2.2.1 → lrel nL g.2.1 lsA → cells + (oN - g.2.2.2.2.1) = mc → slots + (oK - g.2.2.2.2.2) = ms → W p l e R s m args below meth c H locs cells slots Q (F0 m g.1 lsA g.2.2.1)
theorem ld1_inv {pc len i : Nat} {ls : sL} {st : List Value} {σ : sS} {ok : Value → Bool} {x : sG ⊕ sO} (h : ld1 pc len ls i st σ ok = some x) : ∃ v, lget ls i = some v ∧ ok v = true ∧ x = .inl (pc + len, ls, v :: st, σ) := by
  unfold ld1 at h
  split at h
  · rename_i v hv
    split at h
    · rename_i hok
      cases h
      exact ⟨v, hv, hok, rfl⟩
    · cases h
  · cases h
theorem st1_inv {pc len i : Nat} {ls : sL} {st : List Value} {σ : sS} {ok : Value → Bool} {x : sG ⊕ sO} (h : st1 pc len ls i st σ ok = some x) : ∃ v rest, st = v :: rest ∧ ok v = true ∧ i < ls.length ∧ x = .inl (pc + len, lset1 ls i v, rest, σ) := by
  unfold st1 at h
  split at h
  · rename_i v rest
    split at h
    · rename_i hok
      cases h
      exact ⟨v, rest, rfl, hok.1, hok.2, rfl⟩
    · cases h
  · cases h
theorem st2_inv {pc len i : Nat} {ls : sL} {st : List Value} {σ : sS} {ok : Value → Bool} {x : sG ⊕ sO} (h : st2 pc len ls i st σ ok = some x) : ∃ v rest, st = v :: rest ∧ ok v = true ∧ i + 1 < ls.length ∧ x = .inl (pc + len, lset2 ls i v, rest, σ) := by
  unfold st2 at h
  split at h
  · rename_i v rest
    split at h
    · rename_i hok
      cases h
      exact ⟨v, rest, rfl, hok.1, hok.2, rfl⟩
    · cases h
  · cases h
theorem vI_inv {v : Value} (h : vI v = true) : ∃ x, v = .int x := by
  cases v <;> first | exact ⟨_, rfl⟩ | simp [vI] at h
theorem vL_inv {v : Value} (h : vL v = true) : ∃ x, v = .long x := by
  cases v <;> first | exact ⟨_, rfl⟩ | simp [vL] at h
theorem vD_inv {v : Value} (h : vD v = true) : ∃ x, v = .double x := by
  cases v <;> first | exact ⟨_, rfl⟩ | simp [vD] at h
theorem vA_inv {v : Value} (h : vA v = true) : v = .null ∨ ∃ x, v = .ref x := by
  cases v <;> first | exact Or.inl rfl | exact Or.inr ⟨_, rfl⟩ | simp [vA] at h
theorem jp_inv {pc : Nat} {off : Int} {ls : sL} {st : List Value} {σ : sS} {x : sG ⊕ sO} (h : jp pc off ls st σ = some x) : 0 ≤ (pc : Int) + off ∧ x = .inl (tg pc off, ls, st, σ) := by
  unfold jp at h
  split at h
  · rename_i h0
    cases h
    exact ⟨h0, rfl⟩
  · cases h
theorem bif_inv {pc : Nat} {off : Int} {ls : sL} {st : List Value} {σ : sS} {P : Prop} [Decidable P] {x : sG ⊕ sO} (h : bIf pc off ls st σ P = some x) : 0 ≤ (pc : Int) + off ∧ ((P ∧ x = .inl (tg pc off, ls, st, σ)) ∨ (¬ P ∧ x = .inl (pc + 3, ls, st, σ))) := by
  unfold bIf at h
  split at h
  · rename_i h0
    refine ⟨h0, ?_⟩
    split at h
    · rename_i hp
      cases h
      exact Or.inl ⟨hp, rfl⟩
    · rename_i hp
      cases h
      exact Or.inr ⟨hp, rfl⟩
  · cases h
theorem up1_inv {pc len : Nat} {ls : sL} {st : List Value} {σ : sS} {o : Option Value} {x : sG ⊕ sO} (h : up1 pc len ls st σ o = some x) : ∃ v, o = some v ∧ x = .inl (pc + len, ls, v :: st, σ) := by
  unfold up1 at h
  split at h
  · cases h
    exact ⟨_, rfl, rfl⟩
  · cases h
theorem uph_inv {E : sV} {a pc len : Nat} {ls : sL} {st : List Value} {σ : sS} {o : Option sH} {x : sG ⊕ sO} (h : uph E a pc len ls st σ o = some x) : E.1 ≤ a ∧ ∃ h1, o = some h1 ∧ x = .inl (pc + len, ls, st, (h1, σ.2)) := by
  unfold uph at h
  split at h
  · split at h
    · rename_i ha
      cases h
      exact ⟨ha, _, rfl, rfl⟩
    · cases h
  · cases h
theorem or_inv {α : Type} {a b : Option α} {x : α} (h : a.or b = some x) : a = some x ∨ b = some x := by
  cases a with
  | none => exact Or.inr h
  | some y => exact Or.inl h
theorem c1_inv {v : Value} (h : c1 v = true) : v.category = 1 := of_decide_eq_true h

theorem ldcSW {p : Program} {l : Launch} {e : Env} {R : Room} {s : State} {m : MethodId} {args : Array Value} {below : List Frame} {meth : Method} {c : Code} {T : State} {locs : List Loc} {cells slots : Nat}
    (X : Stand p l e R s m args below meth c T locs cells slots) (hexec : p.tables.exec = Jvm.exec) {own text : String} {index : Nat} {a : Addr} (hown : s.vm.findClass own = some m.cls)
    (hconst : (Cond.stringRef own index text).before args s = true) (hev : (Term.string own index).eval args s none [] s = some (.ref a)) {g : JFrame} (hg : g.method = m) (hdg : decode c.code g.pc = .ok (.ldc_w index, 3)) :
    ∀ target, Steps p.tables e below (T.setTop { g with pc := g.pc + 3, stack := .ref a :: g.stack }) target → Steps p.tables e below (T.setTop g) target := by
  obtain ⟨k, cf, i, a', hk, hcf, hcp, -, hr, hev'⟩ := Cond.stringRef_spec hown hconst
  cases hev.symm.trans hev'
  obtain ⟨k', hk', he⟩ := X.warmed.alike.2.2 _ _ hk
  have hr' : k'.resolved[index]? = some (some (.string a)) := by
    rcases X.warmed.entry hk hk' index with h | ⟨h, -⟩
    · rw [h]; exact hr
    · rw [hr] at h; cases h
  intro target hrest
  subst hg
  jvm_step X.here [hexec, hdg, ldc_w.wp_string (e := e) (s := T) (f := g) X.here.top hk' (by rw [he]; exact hcf) hcp hr']
  exact hrest

section STEP
variable {p : Program} {l : Launch} {e : Env} {R : Room} {s : State} {m : MethodId} {args : Array Value} {below : List Frame} {meth : Method} {c : Code} {Q : State → Prop}
variable {E : sV} {D : va_G} {dA : sDA} {r : gM} {mc ms oN oK : Nat} {call : Nat → List Value → sS → Option sO}
def isInv (i : Instr) : Bool := match i with
  | .invokevirtual _ | .invokespecial _ | .invokestatic _ => true
  | _ => false
set_option maxHeartbeats 8000000 in
theorem snd_step (B : sBd p l E D dA r s m meth c) (hR : R.cells = mc ∧ R.slots = ms) {i : Instr} {len pc : Nat} {ls : sL} {st : List Value} {σ : sS} {c' : sG} (hni : isInv i = false) (hdg : decode r.2.1 pc = .ok (i, len)) (hlen : sLen i len = true) (hst : stp E call r i len pc ls st σ = some (.inl c')) (hle : c'.2.2.2.2.1 ≤ oN ∧ c'.2.2.2.2.2 ≤ oK) (hG : Gd p l e R s m args below meth c Q E D dA r.2.2.1 mc ms oN oK c') : Gd p l e R s m args below meth c Q E D dA r.2.2.1 mc ms oN oK (pc, ls, st, σ) := by
  intro H locs lsA cells slots hS hP hn hl hz1 hz2
  obtain ⟨hx, hb, hml, hown, hC, hlocks, hret, hmn, hgo, hbs, htr, hT⟩ := B
  have hts := hC.1 args
  have hK := hC.2.1
  have hTh : ∀ q : Nat, E.1 ≤ q → dA.2.2 ≤ q := fun q hq => by rw [hC.2.2.2.2.2.2.2.2.2.2.2.2]; exact hq
  obtain ⟨hR1, hR2⟩ := hR
  dsimp only at hP hn hl hz1 hz2 ⊢
  cases i <;> dsimp only [stp] at hst <;> (try cases hst)
  all_goals first | (cases hni; done) | skip
  case iconst =>
    obtain rfl : len = 1 := by simpa [sLen] using hlen
    exact lv_iconst hx hb hdg rfl (hG H locs lsA cells slots hS hP hn hl hz1 hz2)
  case bipush =>
    obtain rfl : len = 2 := by simpa [sLen] using hlen
    exact lv_bipush hx hb hdg rfl (hG H locs lsA cells slots hS hP hn hl hz1 hz2)
  case sipush =>
    obtain rfl : len = 3 := by simpa [sLen] using hlen
    exact lv_sipush hx hb hdg rfl (hG H locs lsA cells slots hS hP hn hl hz1 hz2)
  case lconst =>
    obtain rfl : len = 1 := by simpa [sLen] using hlen
    exact lv_lconst hx hb hdg rfl (hG H locs lsA cells slots hS hP hn hl hz1 hz2)
  case aconst_null =>
    obtain rfl : len = 1 := by simpa [sLen] using hlen
    exact lv_null hx hb hdg (hG H locs lsA cells slots hS hP hn hl hz1 hz2)
  case dconst =>
    split at hst
    · rename_i hd0
      cases hst
      obtain rfl : len = 1 := by simpa [sLen] using hlen
      subst hd0
      exact lv_dconst0 hx hb hdg (hG H locs lsA cells slots hS hP hn hl hz1 hz2)
    · cases hst
  case iload_n =>
    obtain ⟨v, h1, h2, h3⟩ := ld1_inv hst
    cases h3
    obtain ⟨x, rfl⟩ := vI_inv h2
    obtain rfl : len = 1 := by simpa [sLen] using hlen
    exact lv_iload_n hx hb hdg rfl (hl.2.2.2 _ _ h1) (hG H locs lsA cells slots hS hP hn hl hz1 hz2)
  case iload =>
    obtain ⟨v, h1, h2, h3⟩ := ld1_inv hst
    cases h3
    obtain ⟨x, rfl⟩ := vI_inv h2
    obtain rfl : len = 2 := by simpa [sLen] using hlen
    exact lv_iload hx hb hdg (hl.2.2.2 _ _ h1) (hG H locs lsA cells slots hS hP hn hl hz1 hz2)
  case lload_n =>
    obtain ⟨v, h1, h2, h3⟩ := ld1_inv hst
    cases h3
    obtain ⟨x, rfl⟩ := vL_inv h2
    obtain rfl : len = 1 := by simpa [sLen] using hlen
    exact lv_lload_n hx hb hdg rfl (hl.2.2.2 _ _ h1) (hG H locs lsA cells slots hS hP hn hl hz1 hz2)
  case lload =>
    obtain ⟨v, h1, h2, h3⟩ := ld1_inv hst
    cases h3
    obtain ⟨x, rfl⟩ := vL_inv h2
    obtain rfl : len = 2 := by simpa [sLen] using hlen
    exact lv_lload hx hb hdg (hl.2.2.2 _ _ h1) (hG H locs lsA cells slots hS hP hn hl hz1 hz2)
  case dload_n =>
    obtain ⟨v, h1, h2, h3⟩ := ld1_inv hst
    cases h3
    obtain ⟨x, rfl⟩ := vD_inv h2
    obtain rfl : len = 1 := by simpa [sLen] using hlen
    exact lv_dload_n hx hb hdg rfl (hl.2.2.2 _ _ h1) (hG H locs lsA cells slots hS hP hn hl hz1 hz2)
  case dload =>
    obtain ⟨v, h1, h2, h3⟩ := ld1_inv hst
    cases h3
    obtain ⟨x, rfl⟩ := vD_inv h2
    obtain rfl : len = 2 := by simpa [sLen] using hlen
    exact lv_dload hx hb hdg (hl.2.2.2 _ _ h1) (hG H locs lsA cells slots hS hP hn hl hz1 hz2)
  case aload_n =>
    obtain ⟨v, h1, h2, h3⟩ := ld1_inv hst
    cases h3
    obtain rfl : len = 1 := by simpa [sLen] using hlen
    rcases vA_inv h2 with rfl | ⟨x, rfl⟩
    · exact lv_aload_nN hx hb hdg rfl (hl.2.2.2 _ _ h1) (hG H locs lsA cells slots hS hP hn hl hz1 hz2)
    · exact lv_aload_n hx hb hdg rfl (hl.2.2.2 _ _ h1) (hG H locs lsA cells slots hS hP hn hl hz1 hz2)
  case aload =>
    obtain ⟨v, h1, h2, h3⟩ := ld1_inv hst
    cases h3
    obtain rfl : len = 2 := by simpa [sLen] using hlen
    rcases vA_inv h2 with rfl | ⟨x, rfl⟩
    · exact lv_aloadN hx hb hdg (hl.2.2.2 _ _ h1) (hG H locs lsA cells slots hS hP hn hl hz1 hz2)
    · exact lv_aload hx hb hdg (hl.2.2.2 _ _ h1) (hG H locs lsA cells slots hS hP hn hl hz1 hz2)
  case istore_n =>
    obtain ⟨v, rest, rfl, h2, h3, h4⟩ := st1_inv hst
    cases h4
    obtain ⟨x, rfl⟩ := vI_inv h2
    obtain rfl : len = 1 := by simpa [sLen] using hlen
    exact lv_istore_n hx hb hdg rfl hl.has (by rw [← hl.2.1]; exact h3) rfl (fun ls2 h2 => hG H locs ls2 cells slots hS hP hn (hl.of1 h2) hz1 hz2)
  case istore =>
    obtain ⟨v, rest, rfl, h2, h3, h4⟩ := st1_inv hst
    cases h4
    obtain ⟨x, rfl⟩ := vI_inv h2
    obtain rfl : len = 2 := by simpa [sLen] using hlen
    exact lv_istore hx hb hdg hl.has (by rw [← hl.2.1]; exact h3) rfl (fun ls2 h2 => hG H locs ls2 cells slots hS hP hn (hl.of1 h2) hz1 hz2)
  case astore_n =>
    obtain ⟨v, rest, rfl, h2, h3, h4⟩ := st1_inv hst
    cases h4
    obtain rfl : len = 1 := by simpa [sLen] using hlen
    rcases vA_inv h2 with rfl | ⟨x, rfl⟩
    · exact lv_astore_nN hx hb hdg rfl hl.has (by rw [← hl.2.1]; exact h3) rfl (fun ls2 h2 => hG H locs ls2 cells slots hS hP hn (hl.of1 h2) hz1 hz2)
    · exact lv_astore_n hx hb hdg rfl hl.has (by rw [← hl.2.1]; exact h3) rfl (fun ls2 h2 => hG H locs ls2 cells slots hS hP hn (hl.of1 h2) hz1 hz2)
  case astore =>
    obtain ⟨v, rest, rfl, h2, h3, h4⟩ := st1_inv hst
    cases h4
    obtain rfl : len = 2 := by simpa [sLen] using hlen
    rcases vA_inv h2 with rfl | ⟨x, rfl⟩
    · exact lv_astoreN hx hb hdg hl.has (by rw [← hl.2.1]; exact h3) rfl (fun ls2 h2 => hG H locs ls2 cells slots hS hP hn (hl.of1 h2) hz1 hz2)
    · exact lv_astore hx hb hdg hl.has (by rw [← hl.2.1]; exact h3) rfl (fun ls2 h2 => hG H locs ls2 cells slots hS hP hn (hl.of1 h2) hz1 hz2)
  case lstore_n =>
    obtain ⟨v, rest, rfl, h2, h3, h4⟩ := st2_inv hst
    cases h4
    obtain ⟨x, rfl⟩ := vL_inv h2
    obtain rfl : len = 1 := by simpa [sLen] using hlen
    exact lv_lstore_n hx hb hdg rfl hl.has (by rw [← hl.2.1]; exact h3) rfl (fun ls2 h2 => hG H locs ls2 cells slots hS hP hn (hl.of2 h2) hz1 hz2)
  case lstore =>
    obtain ⟨v, rest, rfl, h2, h3, h4⟩ := st2_inv hst
    cases h4
    obtain ⟨x, rfl⟩ := vL_inv h2
    obtain rfl : len = 2 := by simpa [sLen] using hlen
    exact lv_lstore hx hb hdg hl.has (by rw [← hl.2.1]; exact h3) rfl (fun ls2 h2 => hG H locs ls2 cells slots hS hP hn (hl.of2 h2) hz1 hz2)
  case dstore_n =>
    obtain ⟨v, rest, rfl, h2, h3, h4⟩ := st2_inv hst
    cases h4
    obtain ⟨x, rfl⟩ := vD_inv h2
    obtain rfl : len = 1 := by simpa [sLen] using hlen
    exact lv_dstore_n hx hb hdg rfl hl.has (by rw [← hl.2.1]; exact h3) rfl (fun ls2 h2 => hG H locs ls2 cells slots hS hP hn (hl.of2 h2) hz1 hz2)
  case dstore =>
    obtain ⟨v, rest, rfl, h2, h3, h4⟩ := st2_inv hst
    cases h4
    obtain ⟨x, rfl⟩ := vD_inv h2
    obtain rfl : len = 2 := by simpa [sLen] using hlen
    exact lv_dstore hx hb hdg hl.has (by rw [← hl.2.1]; exact h3) rfl (fun ls2 h2 => hG H locs ls2 cells slots hS hP hn (hl.of2 h2) hz1 hz2)
  case iinc =>
    split at hst
    · rename_i x hg
      split at hst
      · rename_i hk
        cases hst
        obtain rfl : len = 3 := by simpa [sLen] using hlen
        obtain ⟨k9, hk9⟩ := List.getElem?_of_mem (lvl_mem.mpr hg)
        exact lv_iinc hx hb hdg hl.has hk9 rfl (by rw [← hl.2.1]; exact hk) rfl (fun ls2 h2 => hG H locs ls2 cells slots hS hP hn (hl.of1 h2) hz1 hz2)
      · cases hst
    · cases hst
  case iadd =>
    split at hst
    · cases hst
      obtain rfl : len = 1 := by simpa [sLen] using hlen
      exact lv_iadd hx hb hdg (hG H locs lsA cells slots hS hP hn hl hz1 hz2)
    · cases hst
  case isub =>
    split at hst
    · cases hst
      obtain rfl : len = 1 := by simpa [sLen] using hlen
      exact lv_isub hx hb hdg (hG H locs lsA cells slots hS hP hn hl hz1 hz2)
    · cases hst
  case imul =>
    split at hst
    · cases hst
      obtain rfl : len = 1 := by simpa [sLen] using hlen
      exact lv_imul hx hb hdg (hG H locs lsA cells slots hS hP hn hl hz1 hz2)
    · cases hst
  case iand =>
    split at hst
    · cases hst
      obtain rfl : len = 1 := by simpa [sLen] using hlen
      exact lv_iand hx hb hdg (hG H locs lsA cells slots hS hP hn hl hz1 hz2)
    · cases hst
  case ior =>
    split at hst
    · cases hst
      obtain rfl : len = 1 := by simpa [sLen] using hlen
      exact lv_ior hx hb hdg (hG H locs lsA cells slots hS hP hn hl hz1 hz2)
    · cases hst
  case ishl =>
    split at hst
    · cases hst
      obtain rfl : len = 1 := by simpa [sLen] using hlen
      exact lv_ishl hx hb hdg (hG H locs lsA cells slots hS hP hn hl hz1 hz2)
    · cases hst
  case ishr =>
    split at hst
    · cases hst
      obtain rfl : len = 1 := by simpa [sLen] using hlen
      exact lv_ishr hx hb hdg (hG H locs lsA cells slots hS hP hn hl hz1 hz2)
    · cases hst
  case ineg =>
    split at hst
    · cases hst
      obtain rfl : len = 1 := by simpa [sLen] using hlen
      exact lv_ineg hx hb hdg (hG H locs lsA cells slots hS hP hn hl hz1 hz2)
    · cases hst
  case ladd =>
    split at hst
    · cases hst
      obtain rfl : len = 1 := by simpa [sLen] using hlen
      exact lv_ladd hx hb hdg (hG H locs lsA cells slots hS hP hn hl hz1 hz2)
    · cases hst
  case lsub =>
    split at hst
    · cases hst
      obtain rfl : len = 1 := by simpa [sLen] using hlen
      exact lv_lsub hx hb hdg (hG H locs lsA cells slots hS hP hn hl hz1 hz2)
    · cases hst
  case lmul =>
    split at hst
    · cases hst
      obtain rfl : len = 1 := by simpa [sLen] using hlen
      exact lv_lmul hx hb hdg (hG H locs lsA cells slots hS hP hn hl hz1 hz2)
    · cases hst
  case dcmp =>
    split at hst
    · cases hst
      obtain rfl : len = 1 := by simpa [sLen] using hlen
      exact lv_dcmp hx hb hdg (hG H locs lsA cells slots hS hP hn hl hz1 hz2)
    · cases hst
  case i2d =>
    split at hst
    · cases hst
      obtain rfl : len = 1 := by simpa [sLen] using hlen
      exact lv_i2d hx hb hdg (hG H locs lsA cells slots hS hP hn hl hz1 hz2)
    · cases hst
  case i2f =>
    split at hst
    · cases hst
      obtain rfl : len = 1 := by simpa [sLen] using hlen
      exact lv_i2f hx hb hdg (hG H locs lsA cells slots hS hP hn hl hz1 hz2)
    · cases hst
  case l2d =>
    split at hst
    · cases hst
      obtain rfl : len = 1 := by simpa [sLen] using hlen
      exact lv_l2d hx hb hdg (hG H locs lsA cells slots hS hP hn hl hz1 hz2)
    · cases hst
  case lcmp =>
    split at hst
    · cases hst
      obtain rfl : len = 1 := by simpa [sLen] using hlen
      exact W.lcmp hx hb hdg (hG H locs lsA cells slots hS hP hn hl hz1 hz2)
    · cases hst
  case i2l =>
    split at hst
    · cases hst
      obtain rfl : len = 1 := by simpa [sLen] using hlen
      exact lv_i2l hx hb hdg rfl (hG H locs lsA cells slots hS hP hn hl hz1 hz2)
    · cases hst
  case i2c =>
    split at hst
    · cases hst
      obtain rfl : len = 1 := by simpa [sLen] using hlen
      exact lv_i2c hx hb hdg rfl (hG H locs lsA cells slots hS hP hn hl hz1 hz2)
    · cases hst
  case i2b =>
    split at hst
    · cases hst
      obtain rfl : len = 1 := by simpa [sLen] using hlen
      exact lv_i2b hx hb hdg rfl (hG H locs lsA cells slots hS hP hn hl hz1 hz2)
    · cases hst
  case idiv =>
    split at hst
    · split at hst
      · cases hst
      · rename_i hne
        cases hst
        obtain rfl : len = 1 := by simpa [sLen] using hlen
        exact lv_idiv hx hb hdg hne (hG H locs lsA cells slots hS hP hn hl hz1 hz2)
    · cases hst
  case irem =>
    split at hst
    · split at hst
      · cases hst
      · rename_i hne
        cases hst
        obtain rfl : len = 1 := by simpa [sLen] using hlen
        exact lv_irem hx hb hdg hne (hG H locs lsA cells slots hS hP hn hl hz1 hz2)
    · cases hst
  case fdiv =>
    split at hst
    · split at hst
      · rename_i hne
        cases hst
        obtain rfl : len = 1 := by simpa [sLen] using hlen
        exact lv_fdiv hx hb hdg hne (hG H locs lsA cells slots hS hP hn hl hz1 hz2)
      · cases hst
    · cases hst
  case ddiv =>
    split at hst
    · split at hst
      · rename_i hne
        cases hst
        obtain rfl : len = 1 := by simpa [sLen] using hlen
        exact lv_ddiv hx hb hdg hne (hG H locs lsA cells slots hS hP hn hl hz1 hz2)
      · cases hst
    · cases hst
  case f2d =>
    split at hst
    · split at hst
      · rename_i hne
        cases hst
        obtain rfl : len = 1 := by simpa [sLen] using hlen
        exact lv_f2d hx hb hdg hne (hG H locs lsA cells slots hS hP hn hl hz1 hz2)
      · cases hst
    · cases hst
  case dup =>
    split at hst
    · split at hst
      · rename_i hc
        cases hst
        obtain rfl : len = 1 := by simpa [sLen] using hlen
        exact lv_dup hx hb hdg (c1_inv hc) (hG H locs lsA cells slots hS hP hn hl hz1 hz2)
      · cases hst
    · cases hst
  case pop =>
    split at hst
    · split at hst
      · rename_i hc
        cases hst
        obtain rfl : len = 1 := by simpa [sLen] using hlen
        exact lv_pop hx hb hdg (c1_inv hc) (hG H locs lsA cells slots hS hP hn hl hz1 hz2)
      · cases hst
    · cases hst
  case dup_x1 =>
    split at hst
    · split at hst
      · rename_i hc
        cases hst
        obtain rfl : len = 1 := by simpa [sLen] using hlen
        have hc := Bool.and_eq_true_iff.mp hc
        exact lv_dup_x1 hx hb hdg (c1_inv hc.1) (c1_inv hc.2) (hG H locs lsA cells slots hS hP hn hl hz1 hz2)
      · cases hst
    · cases hst
  case dup2 =>
    split at hst
    · split at hst
      · rename_i hc
        cases hst
        obtain rfl : len = 1 := by simpa [sLen] using hlen
        have hc := Bool.and_eq_true_iff.mp hc
        exact lv_dup2_11 hx hb hdg (c1_inv hc.1) (c1_inv hc.2) (hG H locs lsA cells slots hS hP hn hl hz1 hz2)
      · cases hst
    · cases hst
  case goto =>
    obtain ⟨h0, h1⟩ := jp_inv hst
    cases h1
    obtain rfl : len = 3 := by simpa [sLen] using hlen
    exact lv_goto hx hb hdg (tg_eq h0) (hG H locs lsA cells slots hS hP hn hl hz1 hz2)
  case ifCond =>
    rename_i cd off
    split at hst
    · obtain rfl : len = 3 := by simpa [sLen] using hlen
      cases cd
      · obtain ⟨h0, ⟨hp, h1⟩ | ⟨hp, h1⟩⟩ := bif_inv hst
        · cases h1
          exact lv_if_eq hx hb hdg (tg_eq h0) (fun _ => hG H locs lsA cells slots hS hP hn hl hz1 hz2) (fun q => absurd hp q)
        · cases h1
          exact lv_if_eq hx hb hdg (tg_eq h0) (fun q => absurd q hp) (fun _ => hG H locs lsA cells slots hS hP hn hl hz1 hz2)
      · obtain ⟨h0, ⟨hp, h1⟩ | ⟨hp, h1⟩⟩ := bif_inv hst
        · cases h1
          exact lv_if_ne hx hb hdg (tg_eq h0) (fun _ => hG H locs lsA cells slots hS hP hn hl hz1 hz2) (fun q => absurd q hp)
        · cases h1
          exact lv_if_ne hx hb hdg (tg_eq h0) (fun q => absurd q hp) (fun _ => hG H locs lsA cells slots hS hP hn hl hz1 hz2)
      · obtain ⟨h0, ⟨hp, h1⟩ | ⟨hp, h1⟩⟩ := bif_inv hst
        · cases h1
          exact lv_if_lt hx hb hdg (tg_eq h0) (fun _ => hG H locs lsA cells slots hS hP hn hl hz1 hz2) (fun q => absurd hp q)
        · cases h1
          exact lv_if_lt hx hb hdg (tg_eq h0) (fun q => absurd q hp) (fun _ => hG H locs lsA cells slots hS hP hn hl hz1 hz2)
      · obtain ⟨h0, ⟨hp, h1⟩ | ⟨hp, h1⟩⟩ := bif_inv hst
        · cases h1
          exact lv_if_ge hx hb hdg (tg_eq h0) (fun _ => hG H locs lsA cells slots hS hP hn hl hz1 hz2) (fun q => absurd hp q)
        · cases h1
          exact lv_if_ge hx hb hdg (tg_eq h0) (fun q => absurd q hp) (fun _ => hG H locs lsA cells slots hS hP hn hl hz1 hz2)
      · obtain ⟨h0, ⟨hp, h1⟩ | ⟨hp, h1⟩⟩ := bif_inv hst
        · cases h1
          exact lv_if_gt hx hb hdg (tg_eq h0) (fun _ => hG H locs lsA cells slots hS hP hn hl hz1 hz2) (fun q => absurd hp q)
        · cases h1
          exact lv_if_gt hx hb hdg (tg_eq h0) (fun q => absurd q hp) (fun _ => hG H locs lsA cells slots hS hP hn hl hz1 hz2)
      · obtain ⟨h0, ⟨hp, h1⟩ | ⟨hp, h1⟩⟩ := bif_inv hst
        · cases h1
          exact lv_if_le hx hb hdg (tg_eq h0) (fun _ => hG H locs lsA cells slots hS hP hn hl hz1 hz2) (fun q => absurd hp q)
        · cases h1
          exact lv_if_le hx hb hdg (tg_eq h0) (fun q => absurd q hp) (fun _ => hG H locs lsA cells slots hS hP hn hl hz1 hz2)
    · cases hst
  case if_icmp =>
    rename_i cd off
    split at hst
    · obtain rfl : len = 3 := by simpa [sLen] using hlen
      cases cd
      · obtain ⟨h0, ⟨hp, h1⟩ | ⟨hp, h1⟩⟩ := bif_inv hst
        · cases h1
          exact lv_icmp_eq hx hb hdg (tg_eq h0) (fun _ => hG H locs lsA cells slots hS hP hn hl hz1 hz2) (fun q => absurd hp q)
        · cases h1
          exact lv_icmp_eq hx hb hdg (tg_eq h0) (fun q => absurd q hp) (fun _ => hG H locs lsA cells slots hS hP hn hl hz1 hz2)
      · obtain ⟨h0, ⟨hp, h1⟩ | ⟨hp, h1⟩⟩ := bif_inv hst
        · cases h1
          exact lv_icmp_ne hx hb hdg (tg_eq h0) (fun _ => hG H locs lsA cells slots hS hP hn hl hz1 hz2) (fun q => absurd q hp)
        · cases h1
          exact lv_icmp_ne hx hb hdg (tg_eq h0) (fun q => absurd q hp) (fun _ => hG H locs lsA cells slots hS hP hn hl hz1 hz2)
      · obtain ⟨h0, ⟨hp, h1⟩ | ⟨hp, h1⟩⟩ := bif_inv hst
        · cases h1
          exact lv_icmp_lt hx hb hdg (tg_eq h0) (fun _ => hG H locs lsA cells slots hS hP hn hl hz1 hz2) (fun q => absurd hp q)
        · cases h1
          exact lv_icmp_lt hx hb hdg (tg_eq h0) (fun q => absurd q hp) (fun _ => hG H locs lsA cells slots hS hP hn hl hz1 hz2)
      · obtain ⟨h0, ⟨hp, h1⟩ | ⟨hp, h1⟩⟩ := bif_inv hst
        · cases h1
          exact lv_icmp_ge hx hb hdg (tg_eq h0) (fun _ => hG H locs lsA cells slots hS hP hn hl hz1 hz2) (fun q => absurd hp q)
        · cases h1
          exact lv_icmp_ge hx hb hdg (tg_eq h0) (fun q => absurd q hp) (fun _ => hG H locs lsA cells slots hS hP hn hl hz1 hz2)
      · obtain ⟨h0, ⟨hp, h1⟩ | ⟨hp, h1⟩⟩ := bif_inv hst
        · cases h1
          exact lv_icmp_gt hx hb hdg (tg_eq h0) (fun _ => hG H locs lsA cells slots hS hP hn hl hz1 hz2) (fun q => absurd hp q)
        · cases h1
          exact lv_icmp_gt hx hb hdg (tg_eq h0) (fun q => absurd q hp) (fun _ => hG H locs lsA cells slots hS hP hn hl hz1 hz2)
      · obtain ⟨h0, ⟨hp, h1⟩ | ⟨hp, h1⟩⟩ := bif_inv hst
        · cases h1
          exact lv_icmp_le hx hb hdg (tg_eq h0) (fun _ => hG H locs lsA cells slots hS hP hn hl hz1 hz2) (fun q => absurd hp q)
        · cases h1
          exact lv_icmp_le hx hb hdg (tg_eq h0) (fun q => absurd q hp) (fun _ => hG H locs lsA cells slots hS hP hn hl hz1 hz2)
    · cases hst
  case if_acmp =>
    split at hst
    · rename_i y x t
      obtain rfl : len = 3 := by simpa [sLen] using hlen
      obtain ⟨h0, ⟨hp, h1⟩ | ⟨hp, h1⟩⟩ := bif_inv hst
      · cases h1
        exact lv_acmp_eq (rx := some x) (ry := some y) hx hb hdg (tg_eq h0) (fun _ => hG H locs lsA cells slots hS hP hn hl hz1 hz2) (fun q => absurd (by rw [hp]) q)
      · cases h1
        exact lv_acmp_eq (rx := some x) (ry := some y) hx hb hdg (tg_eq h0) (fun q => absurd (Option.some.inj q) hp) (fun _ => hG H locs lsA cells slots hS hP hn hl hz1 hz2)
    · cases hst
  case ifnull =>
    obtain rfl : len = 3 := by simpa [sLen] using hlen
    split at hst
    · cases hst
      exact lv_ifnull hx hb hdg (hG H locs lsA cells slots hS hP hn hl hz1 hz2)
    · obtain ⟨h0, h1⟩ := jp_inv hst
      cases h1
      exact lv_ifnullN hx hb hdg (tg_eq h0) (hG H locs lsA cells slots hS hP hn hl hz1 hz2)
    · cases hst
  case ifnonnull =>
    obtain rfl : len = 3 := by simpa [sLen] using hlen
    split at hst
    · obtain ⟨h0, h1⟩ := jp_inv hst
      cases h1
      exact lv_ifnonnull hx hb hdg (tg_eq h0) (hG H locs lsA cells slots hS hP hn hl hz1 hz2)
    · cases hst
      exact lv_ifnonnullN hx hb hdg (hG H locs lsA cells slots hS hP hn hl hz1 hz2)
    · cases hst
  case tableswitch =>
    split at hst
    · split at hst
      · rename_i hq
        obtain ⟨h0, h1⟩ := jp_inv hst
        cases h1
        exact lv_tableOut hx hb hdg hq (tg_eq h0) (hG H locs lsA cells slots hS hP hn hl hz1 hz2)
      · rename_i hq
        split at hst
        · rename_i off ho
          obtain ⟨h0, h1⟩ := jp_inv hst
          cases h1
          exact lv_tableIn hx hb hdg (fun q => hq (Or.inl q)) (fun q => hq (Or.inr q)) ho (tg_eq h0) (hG H locs lsA cells slots hS hP hn hl hz1 hz2)
        · cases hst
    · cases hst
  case getfield =>
    split at hst
    · rename_i a t ci k hk
      obtain ⟨v, h1, h2⟩ := up1_inv hst
      cases h2
      obtain rfl : len = 3 := by simpa [sLen] using hlen
      obtain ⟨q, y, hq, hy, hkl, hw⟩ := LKf_ok hgo hk
      exact snd_getf hx hb hown hK hP hq hkl (hts _ hw) h1 hdg (hG H locs lsA cells slots hS hP hn hl hz1 hz2)
    · cases hst
  case putfield =>
    split at hst
    · rename_i v a t ci k hk
      split at hst
      · rename_i hok
        obtain ⟨ha, h1, h2, h3⟩ := uph_inv hst
        cases h3
        obtain rfl : len = 3 := by simpa [sLen] using hlen
        obtain ⟨q, y, hq, hy, hkl, hw⟩ := LKf_ok hgo hk
        have hc10 : ci < 10 := by
          unfold pfOk at hok
          rw [hq, hy] at hok
          simp only [Bool.and_eq_true, decide_eq_true_eq] at hok
          exact hok.1.1.1.1
        obtain ⟨k1, k2, k3⟩ := cls_ok hc10 hq hy
        exact snd_putf hx hb hts k1 k2 k3 hown hmn hK hP hS ha hTh hq hy (hts _ hw) hok h2 hdg (fun H1 locs1 hP1 z1 hS1 => hG H1 locs1 lsA cells slots hS1 hP1 (z1.trans hn) hl hz1 hz2)
      · cases hst
    · cases hst
  case getstatic =>
    split at hst
    · rename_i si hk
      cases hst
      obtain rfl : len = 3 := by simpa [sLen] using hlen
      obtain ⟨q, hq, hw⟩ := LKs_ok hgo hk
      have hZ := hC.2.2.2.2.2.2.2.1 si q hq
      rcases hw with hw | ⟨host, hw⟩
      · exact va_gets hx hb hZ hS hown (hts _ hw) (fun _ h => h) hdg (hG H locs lsA cells slots hS hP hn hl hz1 hz2)
      · exact va_getsN hx hb hZ hS hown ((hC.2.2.2.1 _ _ _ _ _ _ hw).use rfl) (fun _ h => h) hdg (hG H locs lsA cells slots hS hP hn hl hz1 hz2)
    · cases hst
  case ldc =>
    split at hst
    · rename_i x hk
      cases hst
      obtain rfl : len = 2 := by simpa [sLen] using hlen
      exact lv_ldc hx hb hown (hts _ (LKk_ok hgo hk)) hdg (hG H locs lsA cells slots hS hP hn hl hz1 hz2)
    · rename_i x hk
      cases hst
      obtain rfl : len = 2 := by simpa [sLen] using hlen
      exact lv_ldcf hx hb hown (hts _ (LKk_ok hgo hk)) hdg (hG H locs lsA cells slots hS hP hn hl hz1 hz2)
    · cases hst
  case ldc2_w =>
    split at hst
    · rename_i x hk
      cases hst
      obtain rfl : len = 3 := by simpa [sLen] using hlen
      exact lv_ldc2 hx hb hown (hts _ (LKk_ok hgo hk)) hdg (hG H locs lsA cells slots hS hP hn hl hz1 hz2)
    · cases hst
  case ldc_w =>
    split at hst
    · rename_i si hk
      cases hst
      obtain rfl : len = 3 := by simpa [sLen] using hlen
      obtain ⟨e1, e2, e3⟩ := LKt_ok hgo hk
      obtain ⟨a, ha, hr⟩ := hC.2.2.2.2.2.2.2.2.1
      subst e2; subst e3
      rw [← e1] at hr
      intro T hT2 X
      have hk9 : W p l e R s m args below meth c H locs cells slots Q (F0 m (pc + 3) lsA (.ref a :: st)) := by
        rw [← ha]
        exact hG H locs lsA cells slots hS hP hn hl hz1 hz2
      obtain ⟨t, a1, b1⟩ := hk9 T hT2 X
      exact ⟨t, ldcSW X hx hown (text := " t") (a := a) hr.1 hr.2 (g := F0 m pc lsA st) rfl (by rw [hb]; exact hdg) t a1, b1⟩
    · cases hst
  case iaload =>
    split at hst
    · obtain ⟨v, h1, h2⟩ := up1_inv hst
      cases h2
      obtain rfl : len = 1 := by simpa [sLen] using hlen
      obtain ⟨cell, g1, g2, g3, g4, g5⟩ := snd_aldI hK hP h1
      exact W.iald hx hb g1 g2 g3 g4 g5 rfl rfl hdg (hG H locs lsA cells slots hS hP hn hl hz1 hz2)
    · cases hst
  case caload =>
    split at hst
    · obtain ⟨v, h1, h2⟩ := up1_inv hst
      cases h2
      obtain rfl : len = 1 := by simpa [sLen] using hlen
      obtain ⟨cell, g1, g2, g3, g4, g5⟩ := snd_aldI hK hP h1
      exact W.cald hx hb g1 g2 g3 g4 g5 rfl rfl hdg (hG H locs lsA cells slots hS hP hn hl hz1 hz2)
    · cases hst
  case baload =>
    split at hst
    · obtain ⟨v, h1, h2⟩ := up1_inv hst
      cases h2
      obtain rfl : len = 1 := by simpa [sLen] using hlen
      rcases or_inv h1 with h1 | h1
      · obtain ⟨cell, g1, g2, g3, g4, g5⟩ := snd_aldI hK hP h1
        exact W.bald hx hb g1 g2 g3 g4 g5 rfl rfl hdg (hG H locs lsA cells slots hS hP hn hl hz1 hz2)
      · obtain ⟨cell, g1, g2, g3, g4, g5⟩ := snd_aldI hK hP h1
        exact W.zald hx hb g1 g2 g3 g4 g5 rfl rfl hdg (hG H locs lsA cells slots hS hP hn hl hz1 hz2)
    · cases hst
  case laload =>
    split at hst
    · obtain ⟨v, h1, h2⟩ := up1_inv hst
      cases h2
      obtain rfl : len = 1 := by simpa [sLen] using hlen
      obtain ⟨cell, g1, g2, g3, g4, g5⟩ := snd_aldL hK hP h1
      exact W.lald hx hb g1 g2 g3 g4 g5 rfl rfl hdg (hG H locs lsA cells slots hS hP hn hl hz1 hz2)
    · cases hst
  case daload =>
    split at hst
    · obtain ⟨v, h1, h2⟩ := up1_inv hst
      cases h2
      obtain rfl : len = 1 := by simpa [sLen] using hlen
      obtain ⟨cell, g1, g2, g3, g4, g5⟩ := snd_aldD hK hP h1
      exact W.dald hx hb g1 g2 g3 g4 g5 rfl rfl hdg (hG H locs lsA cells slots hS hP hn hl hz1 hz2)
    · cases hst
  case aaload =>
    split at hst
    · obtain ⟨v, h1, h2⟩ := up1_inv hst
      cases h2
      obtain rfl : len = 1 := by simpa [sLen] using hlen
      exact snd_aldR hx hb hK hP h1 hdg (hG H locs lsA cells slots hS hP hn hl hz1 hz2)
    · cases hst
  case iastore =>
    split at hst
    · obtain ⟨ha, h1, h2, h3⟩ := uph_inv hst
      cases h3
      obtain rfl : len = 1 := by simpa [sLen] using hlen
      obtain ⟨cell, g1, g2, g3, g4, g5⟩ := snd_astI hK hP hS ha hTh h2
      exact W.iast hx hb g1 g2 g3 g4 rfl rfl hdg (fun H1 e1 z1 oq => by
        obtain ⟨hP1, hS1⟩ := g5 H1 e1 z1 oq
        exact hG H1 _ lsA cells slots hS1 hP1 (z1.trans hn) hl hz1 hz2)
    · cases hst
  case castore =>
    split at hst
    · obtain ⟨ha, h1, h2, h3⟩ := uph_inv hst
      cases h3
      obtain rfl : len = 1 := by simpa [sLen] using hlen
      obtain ⟨cell, g1, g2, g3, g4, g5⟩ := snd_astI hK hP hS ha hTh h2
      exact W.cast hx hb g1 g2 g3 g4 rfl rfl hdg (fun H1 e1 z1 oq => by
        obtain ⟨hP1, hS1⟩ := g5 H1 e1 z1 oq
        exact hG H1 _ lsA cells slots hS1 hP1 (z1.trans hn) hl hz1 hz2)
    · cases hst
  case lastore =>
    split at hst
    · obtain ⟨ha, h1, h2, h3⟩ := uph_inv hst
      cases h3
      obtain rfl : len = 1 := by simpa [sLen] using hlen
      obtain ⟨cell, g1, g2, g3, g4, g5⟩ := snd_astL hK hP hS ha hTh h2
      exact W.last hx hb g1 g2 g3 g4 rfl rfl hdg (fun H1 e1 z1 oq => by
        obtain ⟨hP1, hS1⟩ := g5 H1 e1 z1 oq
        exact hG H1 _ lsA cells slots hS1 hP1 (z1.trans hn) hl hz1 hz2)
    · cases hst
  case dastore =>
    split at hst
    · obtain ⟨ha, h1, h2, h3⟩ := uph_inv hst
      cases h3
      obtain rfl : len = 1 := by simpa [sLen] using hlen
      obtain ⟨cell, g1, g2, g3, g4, g5⟩ := snd_astD hK hP hS ha hTh h2
      exact W.dast hx hb g1 g2 g3 g4 rfl rfl hdg (fun H1 e1 z1 oq => by
        obtain ⟨hP1, hS1⟩ := g5 H1 e1 z1 oq
        exact hG H1 _ lsA cells slots hS1 hP1 (z1.trans hn) hl hz1 hz2)
    · cases hst
  case bastore =>
    split at hst
    · obtain ⟨ha, h1, h2, h3⟩ := uph_inv hst
      cases h3
      obtain rfl : len = 1 := by simpa [sLen] using hlen
      rcases or_inv h2 with h2 | h2
      · obtain ⟨cell, g1, g2, g3, g4, g5⟩ := snd_astI hK hP hS ha hTh h2
        exact W.bast hx hb g1 g2 g3 g4 rfl rfl hdg (fun H1 e1 z1 oq => by
          obtain ⟨hP1, hS1⟩ := g5 H1 e1 z1 oq
          exact hG H1 _ lsA cells slots hS1 hP1 (z1.trans hn) hl hz1 hz2)
      · obtain ⟨cell, g1, g2, g3, g4, g5⟩ := snd_astI hK hP hS ha hTh h2
        exact W.zast hx hb g1 g2 g3 g4 rfl rfl hdg (fun H1 e1 z1 oq => by
          obtain ⟨hP1, hS1⟩ := g5 H1 e1 z1 oq
          exact hG H1 _ lsA cells slots hS1 hP1 (z1.trans hn) hl hz1 hz2)
    · cases hst
  case aastore =>
    split at hst
    · obtain ⟨ha, h1, h2, h3⟩ := uph_inv hst
      cases h3
      obtain rfl : len = 1 := by simpa [sLen] using hlen
      exact snd_astR hx hb hK hP hS ha hTh h2 hdg (fun H1 locs1 hP1 z1 hS1 => hG H1 locs1 lsA cells slots hS1 hP1 (z1.trans hn) hl hz1 hz2)
    · cases hst
  case arraylength =>
    split at hst
    · split at hst
      · rename_i n h1
        cases hst
        obtain rfl : len = 1 := by simpa [sLen] using hlen
        exact snd_alen hx hb hK hP h1 hdg (hG H locs lsA cells slots hS hP hn hl hz1 hz2)
      · cases hst
    · cases hst
  case newarray =>
    rename_i ty
    split at hst
    · rename_i n t x hz
      split at hst
      · cases hst
      · rename_i hnn
        cases hst
        obtain rfl : len = 2 := by simpa [sLen] using hlen
        dsimp only at hle hz
        have harr : Cond.arrayClass (newarray.typeOf ty) ∈ TB := by
          cases ty <;> first | exact tba_int | exact tba_boolean | exact tba_char | exact tba_byte | exact tba_long | exact tba_double | (simp [newarray.typeOf, zarr] at hz; done)
        have haT : newarray.typeOf ty ∈ aTy := by
          cases ty <;> first | decide | (simp [newarray.typeOf, zarr] at hz; done)
        refine va_newaK hx hb (hts _ harr) rfl hdg rfl (fun q => hnn (Or.inl q)) rfl (by omega) (by omega) (by omega) hn (fun H1 cA e1 z1 o1 hAr hNm => ?_)
        have hcA : cA = dA.1 (newarray.typeOf ty) := by
          have h9 := (hK.2.1 _ haT).2
          cases ty <;> first | exact Option.some.inj (hNm.symm.trans h9) | (simp [newarray.typeOf, zarr] at hz; done)
        refine hG H1 locs lsA (cells + 1) (slots + n.toNatClampNeg) ⟨Nat.le_trans hS.1 (by omega), fun q h1 h2 => (o1 q (by have := hS.1; omega)).trans (hS.2.1 q h1 h2), hS.2.2⟩ (hP.push hn ?_ (fun t x e => by cases e; exact haT) o1) z1 hl (by dsimp only; omega) (by dsimp only; omega)
        show H1[_]? = some (vp_cell _ _)
        rw [e1, hcA]
        cases ty <;> simp only [newarray.typeOf, zarr, Option.some.injEq] at hz <;> first | (cases hz; done) | (subst hz; rfl)
    · cases hst
  case anewarray =>
    split at hst
    · rename_i n t ci hk
      split at hst
      · rename_i q hq
        split at hst
        · cases hst
        · rename_i hnn
          cases hst
          obtain rfl : len = 3 := by simpa [sLen] using hlen
          dsimp only at hle
          obtain ⟨q9, hq9, hw1, hw2, haT⟩ := LKa_ok hgo hk
          cases hq9.symm.trans hq
          refine W.anew hx hb hown (hts _ hw1) (va_AO.use (hC.2.2.2.2.1 _ hw2)) rfl hdg rfl (fun z => hnn (Or.inl z)) (by omega) (by omega) (by omega) (fun cA kA comp f1 f2 f3 f4 => ?_)
          have hcA : cA = dA.1 (.object q.1) := by
            obtain ⟨_, _, _, _, _, h9⟩ := (hK.2.1 _ haT).2
            exact Option.some.inj (f1.symm.trans h9)
          subst hcA
          generalize hH1 : H.push ({ cls := dA.1 (.object q.1), slots := Array.replicate n.toNatClampNeg .null, vm := .none } : Cell) = H1
          have z1 : H1.size = H.size + 1 := by rw [← hH1, Array.size_push]
          have e1 : H1[H.size]? = some (arrV (dA.1 (.object q.1)) n.toNatClampNeg (fun _ => .null)) := by rw [← hH1, Array.getElem?_push_size, ← arrV_new]
          have o1 : ∀ z : Nat, z < H.size → H1[z]? = H[z]? := fun z hz => by rw [← hH1, Array.getElem?_push, if_neg (Nat.ne_of_lt hz)]
          rw [hn] at e1 z1 o1 ⊢
          refine hG H1 locs lsA (cells + 1) (slots + n.toNatClampNeg) ⟨Nat.le_trans hS.1 (by omega), fun z h1 h2 => (o1 z (by have := hS.1; omega)).trans (hS.2.1 z h1 h2), hS.2.2⟩ (hP.push hn ?_ (fun t x e => by cases e; exact haT) o1) z1 hl (by dsimp only; omega) (by dsimp only; omega)
          show H1[_]? = some (vp_cell _ _)
          rw [e1]
          rfl
      · cases hst
    · cases hst
  case new =>
    split at hst
    · rename_i ci hk
      split at hst
      · rename_i fs q hD hq
        cases hst
        obtain rfl : len = 3 := by simpa [sLen] using hlen
        dsimp only at hle
        obtain ⟨q9, y, hq9, hy, hc10, hw1, hw2, hw3⟩ := LKc_ok hgo hk
        cases hq9.symm.trans hq
        obtain ⟨k1, k2, k3⟩ := cls_ok hc10 hq hy
        have hKn := (hK.1 ci q hq).1.at (by omega)
        refine W.newcK hx hb hown (hts _ hw1) (hts _ hw2) (hts _ hw3) rfl hdg (by omega) (by omega) hKn.1 hn (fun H1 kC hkC e1 z1 o1 => ?_)
        refine hG H1 locs lsA (cells + 1) (slots + q.2.2) ⟨Nat.le_trans hS.1 (by omega), fun z h1 h2 => (o1 z (by have := hS.1; omega)).trans (hS.2.1 z h1 h2), hS.2.2⟩ (hP.push hn ?_ (fun t x e => nomatch e) o1) z1 hl (by dsimp only; omega) (by dsimp only; omega)
        have hU : u_Kn s q.1 q.2.1 q.2.2 (D.1 ci) (D.2 ci) := ⟨fun k hk => by
          obtain ⟨cf, kf, fi, f, h1, h2, -⟩ := (hK.1 ci q hq).2 k hk
          exact ⟨cf, kf, fi, f, h1, h2⟩, hKn⟩
        have hfs : ∀ j, j < q.2.2 → defaultValue (y j) = vp_V fs j := by
          intro j hj
          unfold gDef at hD
          rw [hq, hy] at hD
          cases hD
          simp [vp_V, List.getD_eq_getElem?_getD, List.getElem?_range hj]
        exact ⟨_, hq, (u_born y hts k1 hU hkC e1 k2).to hfs⟩
      · cases hst
    · split at hst
      · split at hst
        · cases hst
        · cases hst
      · cases hst
  case ireturn =>
    split at hst
    · split at hst <;> cases hst
    · cases hst
  case lreturn =>
    split at hst
    · cases hst
    · cases hst
  case freturn =>
    split at hst
    · cases hst
    · cases hst
  case dreturn =>
    split at hst
    · cases hst
    · cases hst
  case return_ =>
    split at hst
    · cases hst
    · cases hst
  case areturn =>
    split at hst
    · split at hst <;> cases hst
    · split at hst <;> cases hst
    · cases hst
end STEP
