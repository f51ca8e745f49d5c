/-! runs, methods -/
section MT
variable {p : Program} {l : Launch} {e : Env} {R : Room} {s : State} {m : MethodId} {args : Array Value} {below : List Frame} {meth : Method} {c : Code}
variable {E : sV} {D : va_G} {dA : sDA} {r : gM} {mc ms d : Nat} {call : Nat → List Value → sS → Option sO}
theorem sRet_inr {pc : Nat} {ls : sL} {rest : List Value} {o : Option sO} {x : sO} (h : sRet r pc ls rest o = some (.inr x)) : r.2.2.2.2.2 = [] ∧ o = some x := by
  unfold sRet at h
  split at h
  · cases h
  · cases h
  · split at h
    · rename_i h0
      cases h
      exact ⟨h0, rfl⟩
    · split at h
      · cases h
      · split at h
        · split at h <;> cases h
        · split at h <;> cases h
        · cases h
theorem sInv_inr {pc : Nat} {ls : sL} {st : List Value} {σ : sS} {inst thr : Bool} {t : Nat × Nat × Nat × Nat} {x : sO} (h : sInv call r pc ls st σ inst thr t = some (.inr x)) : r.2.2.2.2.2 = [] := by
  unfold sInv at h
  split at h
  · cases h
  · split at h
    · split at h
      · split at h
        · split at h
          · exact (sRet_inr h).1
          · obtain ⟨v, σ', -, q⟩ := sRet2_n h
            cases q
        · cases h
      · cases h
    · split at h
      · split at h
        · exact (sRet_inr h).1
        · obtain ⟨v, σ', -, q⟩ := sRet2_n h
          cases q
      · cases h
theorem inv_inr {i : Instr} {len pc : Nat} {ls : sL} {st : List Value} {σ : sS} {x : sO} (hni : isInv i = true) (h : stp E call r i len pc ls st σ = some (.inr x)) : r.2.2.2.2.2 = [] := by
  cases i <;> first | (cases hni; done) | skip
  all_goals dsimp only [stp] at h
  case invokevirtual =>
    split at h
    · split at h
      · exact sInv_inr h
      · split at h
        · exact sInv_inr h
        · cases h
    · cases h
  case invokespecial =>
    split at h
    · split at h
      · split at h <;> cases h
      · cases h
    · split at h
      · split at h
        · exact sInv_inr h
        · cases h
      · cases h
  case invokestatic =>
    split at h
    · split at h
      · exact sInv_inr h
      · split at h
        · exact sInv_inr h
        · cases h
    · split at h
      · split at h
        · split at h <;> cases h
        · split at h <;> cases h
        · split at h <;> cases h
        · cases h
      · split at h
        · split at h
          · exact absurd h nR_uph
          · cases h
        · cases h
theorem snd_run (B : sBd p l E D dA r s m meth c) {mi : Nat} (hmi : gMT mi = some r) (hR : R.cells = mc ∧ R.slots = ms ∧ 10 * d + 11 ≤ R.frames ∧ 200 * d + 300 ≤ R.locals) (hcall : ∀ mi as σ o, call mi as σ = some o → (σ.2.1 ≤ o.2.2.1 ∧ σ.2.2 ≤ o.2.2.2) ∧ ∀ r', gMT mi = some r' → mtOK r' → sCt l E D dA d as σ o r') :
    ∀ (n : Nat) (g : sG) (o : sO), runF E call mi n g = some o → Gd p l e R s m args below meth c (sMQ E D dA below o args s mc ms) E D dA r.2.2.1 mc ms o.2.2.1 o.2.2.2 g := by
  intro n
  induction n with
  | zero => intro g o h; simp [runF] at h
  | succ n ih =>
    intro g o h
    obtain ⟨pc, ls, st, σ⟩ := g
    rw [runF] at h
    have hmono : ∀ mi as σ x, call mi as σ = some x → σ.2.1 ≤ x.2.2.1 ∧ σ.2.2 ≤ x.2.2.2 := fun mi as σ x hx => (hcall mi as σ x hx).1
    have hstep : step E call mi (pc, ls, st, σ) = match decode r.2.1 pc with
      | .ok (i, len) => if sLen i len then stp E call r i len pc ls st σ else none
      | _ => none := by
      unfold step
      rw [hmi]
      rfl
    rw [hstep] at h
    cases hdg : decode r.2.1 pc with
    | error x => rw [hdg] at h; cases h
    | ok q =>
      obtain ⟨i, len⟩ := q
      rw [hdg] at h
      dsimp only at h
      by_cases hlen : sLen i len = true
      · rw [if_pos hlen] at h
        cases hx : stp E call r i len pc ls st σ with
        | none => rw [hx] at h; cases h
        | some x =>
          rw [hx] at h
          by_cases hni : isInv i = true
          · refine snd_inv B hR hcall hni hdg hlen hx ?_
            cases x with
            | inl c' =>
              dsimp only at h
              have hle := runF_mono2 hmono n c' o h
              exact ⟨hle.1, hle.2, ih c' o h⟩
            | inr o' =>
              cases h
              have h0 := inv_inr hni hx
              refine ⟨Nat.le_refl _, Nat.le_refl _, fun X H locs lsA rest cells slots q ce h1 hS hP hn hz1 hz2 hce hcv hcl => ?_⟩
              obtain ⟨hx', hb, hml, hown, hC, hlocks, hret, hmn, hgo, hbs, htr, hT⟩ := B
              refine vx_out (E := X) (ce := ce) (fun z hz => by rw [hT.1, h0] at hz; cases hz) hlocks hce hcv hcl (fun t ht hA => ⟨h1, by rw [ht]; exact hP, by rw [ht]; exact hn, hS.F ht⟩) hS.2.2 (by omega) (by omega)
          · have hni' : isInv i = false := by
              cases hq : isInv i
              · rfl
              · exact absurd hq hni
            cases x with
            | inl c' =>
              dsimp only at h
              have hle := runF_mono2 hmono n c' o h
              exact snd_step B ⟨hR.1, hR.2.1⟩ hni' hdg hlen hx hle (ih c' o h)
            | inr o' =>
              cases h
              exact snd_end B ⟨hR.1, hR.2.1, by omega, by omega⟩ hni' hdg hlen hx
      · rw [if_neg hlen] at h; cases h
theorem snd_ent {mi : Nat} {as : List Value} {σ : sS} {o : sO} (hl : l.stackTraces = false) (hmi : gMT mi = some r) (hok : mtOK r) (hlen : (lg_sl as).length ≤ r.2.2.1) (hR : R.cells = o.2.2.1 - σ.2.1 ∧ R.slots = o.2.2.2 - σ.2.2 ∧ 10 * d + 11 ≤ R.frames ∧ 200 * d + 300 ≤ R.locals) (hcall : ∀ mi as σ o, call mi as σ = some o → (σ.2.1 ≤ o.2.2.1 ∧ σ.2.2 ≤ o.2.2.2) ∧ ∀ r', gMT mi = some r' → mtOK r' → sCt l E D dA d as σ o r') (hr : Rn E call mi (0, lpad r.2.2.1 as, [], σ) = some o)
    {ws : List Cond} {rm : Room} {s₁ : State} (hrm : (headSpec ws rm).room = R) (B : BodyLoose p l r.1 (headSpec ws rm) r.2.1 r.2.2.1 r.2.2.2.1 e s m args below meth c s₁) (hml : c.maxLocals = r.2.2.1) (hT : sTab r c) (hv : sPc E D dA as σ args s) :
    W p l e R s m args below meth c s.heap [] 0 0 (sMQ E D dA below o args s (o.2.2.1 - σ.2.1) (o.2.2.2 - σ.2.2)) (entryFrame m args r.2.2.1) := by
  obtain ⟨rfl, hC, hP, hn, hE⟩ := hv
  have hown : s.vm.findClass r.1.cls = some m.cls := findClass_of_methodNamed B.named
  have hBd : sBd p l E D dA r s m meth c := ⟨B.exec, B.bytes, hml, hown, hC, B.notSynchronized, B.returns, (name_of_methodNamed B.named B.method).1, hok.2.2.2.2.1, by rw [hn]; exact hE, hl, hT⟩
  obtain ⟨n, hn2⟩ := Rn_some.mp hr
  have hmono : ∀ mi as σ x, call mi as σ = some x → σ.2.1 ≤ x.2.2.1 ∧ σ.2.2 ≤ x.2.2.2 := fun mi as σ x hx => (hcall mi as σ x hx).1
  have hG := snd_run (args := as.toArray) (below := below) (e := e) hBd hmi hR hcall n _ o hn2
  have hle := runF_mono2 hmono n _ o hn2
  rw [lg_entry_eq]
  exact hG s.heap [] _ 0 0 ⟨Nat.le_refl _, fun _ _ _ => rfl, fun _ h => nomatch h⟩ hP hn (lrel_entry as hlen) (by dsimp only; omega) (by dsimp only; omega)
theorem sCt_of {mi : Nat} {as : List Value} {σ : sS} {o : sO} (hl : l.stackTraces = false) (hmi : gMT mi = some r) (hok : mtOK r) (hlen : (lg_sl as).length ≤ r.2.2.1) (hcall : ∀ mi as σ o, call mi as σ = some o → (σ.2.1 ≤ o.2.2.1 ∧ σ.2.2 ≤ o.2.2.2) ∧ ∀ r', gMT mi = some r' → mtOK r' → sCt l E D dA d as σ o r') (hr : Rn E call mi (0, lpad r.2.2.1 as, [], σ) = some o) : sCt l E D dA (d + 1) as σ o r := by
  unfold sCt
  by_cases h0 : r.2.2.2.2.2 = []
  · refine vx_ofW (cc := r.2.1) (maxL := r.2.2.1) (ret := r.2.2.2.1) (ws' := []) hok.1 (mws_eq h0) ?_
    intro p e s m args below meth c s₁ B hml ht hv
    refine snd_ent hl hmi hok hlen ⟨rfl, rfl, by show _ ≤ 10 * (d + 1) + 10; omega, by show _ ≤ 200 * (d + 1) + 200; omega⟩ hcall hr rfl B hml ⟨?_, hok.2.2.2.2.2⟩ hv
    rw [h0]
    cases hq : c.exceptionTable.toList with
    | nil => rfl
    | cons x t => exact absurd (ht x (by rw [hq]; exact List.mem_cons_self)) id
  · refine vx_ofWH (cc := r.2.1) (maxL := r.2.2.1) (ret := r.2.2.2.1) (ws' := []) hok.1 (mws_eqW h0) ?_
    intro p e s m args below meth c s₁ B hml hv
    refine snd_ent hl hmi hok hlen ⟨rfl, rfl, by show _ ≤ 10 * (d + 1) + 10; omega, by show _ ≤ 200 * (d + 1) + 200; omega⟩ hcall hr rfl B hml ⟨?_, hok.2.2.2.2.2⟩ hv
    have hcw := atoms_spec (ws := mws r) B.pre _ (by rw [mws_eqW h0]; exact List.mem_cons_self)
    rw [vx_table (x := r.1) B hcw]
    simp [tableOf, mhh, List.map_map, Function.comp_def]
/-- THE EVALUATOR IS SOUND: what Mt answers, the machine does, for every caller -/
theorem Mt_snd (hl : l.stackTraces = false) : ∀ (d mi : Nat) (as : List Value) (σ : sS) (o : sO), Mt E d mi as σ = some o → (σ.2.1 ≤ o.2.2.1 ∧ σ.2.2 ≤ o.2.2.2) ∧ ∀ r', gMT mi = some r' → mtOK r' → sCt l E D dA d as σ o r' := by
  intro d
  induction d with
  | zero => intro mi as σ o h; simp [Mt] at h
  | succ d ih =>
    intro mi as σ o h
    refine ⟨Mt_mono E _ _ _ _ _ h, fun r hr hok => ?_⟩
    rw [Mt, hr] at h
    dsimp only at h
    split at h
    · rename_i hlen
      exact sCt_of hl hr hok hlen ih h
    · cases h
end MT
