/-! FROM THE STATEMENT'S START TO THE EVALUATOR'S: the heap function of the launch's own cells -/
section E1
variable {s : State} {args : Array Value} {D : va_G} {dA : sDA} {H : Heap} {a : Nat} {cell : Cell}
def en_sl (H : Heap) (a : Nat) : Array Value := match H[a]? with
  | some c => c.slots
  | none => #[]
theorem en_sl_of (h : H[a]? = some cell) : en_sl H a = cell.slots := by unfold en_sl; rw [h]
def en_i (v : Option Value) : Int32 := match v with
  | some (.int x) => x
  | _ => 0
def en_r (v : Option Value) : Option Nat := match v with
  | some (.ref x) => some x
  | _ => none
def en_v (v : Option Value) : Value := v.getD .null
theorem en_r_rf (r : Option Nat) : en_r (some (va_rf r)) = r := by cases r <;> rfl
/-- what a cell may be: a row of ints, of bytes, of verbs; a verb; a String -/
def en_c (D : va_G) (H : Heap) (a : Nat) (k : Nat) : sC := match k with
  | 0 => .inl (.int, ((en_sl H a).size, .inl (fun i => en_i ((en_sl H a)[i]?))))
  | 1 => .inl (.byte, ((en_sl H a).size, .inl (fun i => en_i ((en_sl H a)[i]?))))
  | 2 => .inl (.object "RepairBarrows$Verb", ((en_sl H a).size, .inr (.inr (.inr (.inr (fun i => en_r ((en_sl H a)[i]?)))))))
  | 3 => .inr (11, [en_v ((en_sl H a)[D.2 11 0]?), en_v ((en_sl H a)[D.2 11 1]?)])
  | _ => .inr (10, [en_v ((en_sl H a)[D.2 10 0]?), en_v ((en_sl H a)[D.2 10 1]?)])
noncomputable def en_try (P : Prop) (c : sC) (r : Option sC) : Option sC := @ite _ P (Classical.propDecidable P) (some c) r
theorem en_try_pos {P : Prop} {c : sC} {r : Option sC} (h : P) : en_try P c r = some c := by
  unfold en_try
  exact if_pos h
theorem en_try_neg {P : Prop} {c : sC} {r : Option sC} (h : ¬ P) : en_try P c r = r := by
  unfold en_try
  exact if_neg h
theorem en_try_some {P : Prop} {c x : sC} {r : Option sC} (h : en_try P c r = some x) : (P ∧ x = c) ∨ r = some x := by
  by_cases hp : P
  · rw [en_try_pos hp] at h
    exact Or.inl ⟨hp, (Option.some.inj h).symm⟩
  · rw [en_try_neg hp] at h
    exact Or.inr h
noncomputable def en_G (D : va_G) (dA : sDA) (H : Heap) : sH := fun a => en_try (sOld D dA a (en_c D H a 0) H) (en_c D H a 0) (en_try (sOld D dA a (en_c D H a 1) H) (en_c D H a 1) (en_try (sOld D dA a (en_c D H a 2) H) (en_c D H a 2) (en_try (sOld D dA a (en_c D H a 3) H) (en_c D H a 3) (en_try (sOld D dA a (en_c D H a 4) H) (en_c D H a 4) none))))
theorem en_P : sP D dA (en_G D dA H) H := by
  intro a c h
  refine Or.inr ?_
  unfold en_G at h
  rcases en_try_some h with ⟨h1, rfl⟩ | h
  · exact h1
  rcases en_try_some h with ⟨h1, rfl⟩ | h
  · exact h1
  rcases en_try_some h with ⟨h1, rfl⟩ | h
  · exact h1
  rcases en_try_some h with ⟨h1, rfl⟩ | h
  · exact h1
  rcases en_try_some h with ⟨h1, rfl⟩ | h
  · exact h1
  cases h
theorem en_oldI {t : FieldType} (hd : dA.2.1 = fun t cA => ArrOfT s cA t) (ha : a < dA.2.2) (hcell : H[a]? = some cell) (hof : s.isArrayOf cell t) (hkn : cell.vm ≠ .unknown) (hall : ∀ (j : Nat) (v : Value), cell.slots[j]? = some v → ∃ x, v = .int x) : sOld D dA a (.inl (t, ((en_sl H a).size, .inl (fun i => en_i ((en_sl H a)[i]?))))) H := by
  refine ⟨ha, cell, hcell, hof.1, hkn, ?_, ?_⟩
  · show dA.2.1 t cell.cls
    rw [hd]
    exact fun n z => ⟨(fun k h => nomatch h), hof.2⟩
  · rw [en_sl_of hcell]
    show cell.slots = (arrV (dA.1 t) cell.slots.size (fun i => .int (en_i (cell.slots[i]?)))).slots
    refine Array.ext_getElem? (fun i => ?_)
    by_cases hi : i < cell.slots.size
    · rw [arrV_read _ _ hi]
      obtain ⟨x, hx⟩ := hall i _ (Array.getElem?_eq_getElem hi)
      rw [Array.getElem?_eq_getElem hi, hx]
      rfl
    · rw [Array.getElem?_eq_none (by omega), Array.getElem?_eq_none (by rw [arrV_size]; omega)]
theorem en_oldR {t : FieldType} (hd : dA.2.1 = fun t cA => ArrOfT s cA t) (ha : a < dA.2.2) (hcell : H[a]? = some cell) (hof : s.isArrayOf cell t) (hkn : cell.vm ≠ .unknown) (hall : ∀ (j : Nat) (v : Value), cell.slots[j]? = some v → ∃ r, v = va_rf r) : sOld D dA a (.inl (t, ((en_sl H a).size, .inr (.inr (.inr (.inr (fun i => en_r ((en_sl H a)[i]?)))))))) H := by
  refine ⟨ha, cell, hcell, hof.1, hkn, ?_, ?_⟩
  · show dA.2.1 t cell.cls
    rw [hd]
    exact fun n z => ⟨(fun k h => nomatch h), hof.2⟩
  · rw [en_sl_of hcell]
    show cell.slots = (arrV (dA.1 t) cell.slots.size (fun i => va_rf (en_r (cell.slots[i]?)))).slots
    refine Array.ext_getElem? (fun i => ?_)
    by_cases hi : i < cell.slots.size
    · rw [arrV_read _ _ hi]
      obtain ⟨x, hx⟩ := hall i _ (Array.getElem?_eq_getElem hi)
      rw [Array.getElem?_eq_getElem hi, hx, en_r_rf]
    · rw [Array.getElem?_eq_none (by omega), Array.getElem?_eq_none (by rw [arrV_size]; omega)]
theorem en_oldO {ci : Nat} {C : String} {T : u_T} {v0 v1 : Value} (hq : gC[ci]? = some (C, T, 2)) (ha : a < dA.2.2) (hcell : H[a]? = some cell) (hns : cell.vm.isStatics = false) (hkn : cell.vm ≠ .unknown) (hcls : cell.cls = D.1 ci) (h0 : cell.slots[D.2 ci 0]? = some v0) (h1 : cell.slots[D.2 ci 1]? = some v1) : sOld D dA a (.inr (ci, [en_v ((en_sl H a)[D.2 ci 0]?), en_v ((en_sl H a)[D.2 ci 1]?)])) H := by
  refine ⟨ha, cell, hcell, (fun k h => by rw [h] at hns; cases hns), hkn, (C, T, 2), hq, hcls, fun k hk => ?_⟩
  have hk : k < 2 := hk
  rw [en_sl_of hcell, h0, h1]
  rcases (show k = 0 ∨ k = 1 by omega) with rfl | rfl
  · exact h0
  · exact h1
theorem en_notI {t : FieldType} {n : Nat} {f : Nat → Int32} (hcell : H[a]? = some cell) {j : Nat} {v : Value} (hj : cell.slots[j]? = some v) (hv : ∀ x, v ≠ .int x) : ¬ sOld D dA a (.inl (t, (n, .inl f))) H := by
  rintro ⟨-, c2, h1, -, -, -, h5⟩
  cases hcell.symm.trans h1
  have h5 : cell.slots = (arrV (dA.1 t) n (fun j => .int (f j))).slots := h5
  rw [h5] at hj
  by_cases hjn : j < n
  · rw [arrV_read _ _ hjn] at hj
    exact hv _ (Option.some.inj hj).symm
  · rw [Array.getElem?_eq_none (by rw [arrV_size]; omega)] at hj
    cases hj
theorem en_notR {t : FieldType} {n : Nat} {f : Nat → Option Nat} (hcell : H[a]? = some cell) {j : Nat} {v : Value} (hj : cell.slots[j]? = some v) (hv : ∀ r, v ≠ va_rf r) : ¬ sOld D dA a (.inl (t, (n, .inr (.inr (.inr (.inr f)))))) H := by
  rintro ⟨-, c2, h1, -, -, -, h5⟩
  cases hcell.symm.trans h1
  have h5 : cell.slots = (arrV (dA.1 t) n (fun j => va_rf (f j))).slots := h5
  rw [h5] at hj
  by_cases hjn : j < n
  · rw [arrV_read _ _ hjn] at hj
    exact hv _ (Option.some.inj hj).symm
  · rw [Array.getElem?_eq_none (by rw [arrV_size]; omega)] at hj
    cases hj
theorem en_notT {t t' : FieldType} {x : vp_A} (hd : dA.2.1 = fun t cA => ArrOfT s cA t) (hcell : H[a]? = some cell) (hof : s.isArrayOf cell t) (hne : t' ≠ t) : ¬ sOld D dA a (.inl (t', x)) H := by
  rintro ⟨-, c2, h1, -, -, h4, -⟩
  cases hcell.symm.trans h1
  have h4 : dA.2.1 t' cell.cls := h4
  rw [hd] at h4
  obtain ⟨-, k, hk, comp, hkind⟩ := h4 0 (fun _ => .null)
  obtain ⟨-, k', hk', comp', hkind'⟩ := hof
  have hk : s.vm.classes[cell.cls]? = some k := hk
  cases hk.symm.trans hk'
  rw [hkind] at hkind'
  cases hkind'
  exact hne rfl
theorem en_notO {ci : Nat} {fs : List Value} (hcell : H[a]? = some cell) (hne : cell.cls ≠ D.1 ci) : ¬ sOld D dA a (.inr (ci, fs)) H := by
  rintro ⟨-, c2, h1, -, -, r, -, h5, -⟩
  cases hcell.symm.trans h1
  exact hne h5
/-! what the heap function says -/
theorem en_gI (hd : dA.2.1 = fun t cA => ArrOfT s cA t) (ha : a < dA.2.2) (hcell : H[a]? = some cell) (hof : s.isArrayOf cell .int) (hkn : cell.vm ≠ .unknown) (hall : ∀ (j : Nat) (v : Value), cell.slots[j]? = some v → ∃ x, v = .int x) : en_G D dA H a = some (.inl (.int, (cell.slots.size, .inl (fun i => en_i (cell.slots[i]?))))) := by
  have h0 : sOld D dA a (en_c D H a 0) H := en_oldI hd ha hcell hof hkn hall
  unfold en_G
  rw [en_try_pos h0]
  simp only [en_c, en_sl_of hcell]
theorem en_gB (hd : dA.2.1 = fun t cA => ArrOfT s cA t) (ha : a < dA.2.2) (hcell : H[a]? = some cell) (hof : s.isArrayOf cell .byte) (hkn : cell.vm ≠ .unknown) (hall : ∀ (j : Nat) (v : Value), cell.slots[j]? = some v → ∃ x, v = .int x) : en_G D dA H a = some (.inl (.byte, (cell.slots.size, .inl (fun i => en_i (cell.slots[i]?))))) := by
  have h0 : ¬ sOld D dA a (en_c D H a 0) H := en_notT hd hcell hof (fun h => by cases h)
  have h1 : sOld D dA a (en_c D H a 1) H := en_oldI hd ha hcell hof hkn hall
  unfold en_G
  rw [en_try_neg h0, en_try_pos h1]
  simp only [en_c, en_sl_of hcell]
theorem en_gR (hd : dA.2.1 = fun t cA => ArrOfT s cA t) (ha : a < dA.2.2) (hcell : H[a]? = some cell) (hof : s.isArrayOf cell (.object "RepairBarrows$Verb")) (hkn : cell.vm ≠ .unknown) (hall : ∀ (j : Nat) (v : Value), cell.slots[j]? = some v → ∃ r, v = va_rf r) : en_G D dA H a = some (.inl (.object "RepairBarrows$Verb", (cell.slots.size, .inr (.inr (.inr (.inr (fun i => en_r (cell.slots[i]?)))))))) := by
  have h0 : ¬ sOld D dA a (en_c D H a 0) H := en_notT hd hcell hof (fun h => by cases h)
  have h1 : ¬ sOld D dA a (en_c D H a 1) H := en_notT hd hcell hof (fun h => by cases h)
  have h2 : sOld D dA a (en_c D H a 2) H := en_oldR hd ha hcell hof hkn hall
  unfold en_G
  rw [en_try_neg h0, en_try_neg h1, en_try_pos h2]
  simp only [en_c, en_sl_of hcell]
theorem en_gV {x : Int32} {q : Nat} (ha : a < dA.2.2) (hcell : H[a]? = some cell) (hns : cell.vm.isStatics = false) (hkn : cell.vm ≠ .unknown) (hcls : cell.cls = D.1 11) (h0 : cell.slots[D.2 11 0]? = some (.int x)) (h1 : cell.slots[D.2 11 1]? = some (.ref q)) : en_G D dA H a = some (.inr (11, [.int x, .ref q])) := by
  have e0 : ¬ sOld D dA a (en_c D H a 0) H := en_notI hcell h1 (fun x h => by cases h)
  have e1 : ¬ sOld D dA a (en_c D H a 1) H := en_notI hcell h1 (fun x h => by cases h)
  have e2 : ¬ sOld D dA a (en_c D H a 2) H := en_notR hcell h0 (fun r h => by cases r <;> cases h)
  have e3 : sOld D dA a (en_c D H a 3) H := en_oldO (ci := 11) rfl ha hcell hns hkn hcls h0 h1
  unfold en_G
  rw [en_try_neg e0, en_try_neg e1, en_try_neg e2, en_try_pos e3]
  simp only [en_c, en_sl_of hcell, h0, h1]
  rfl
theorem en_gS {x : Int32} {q : Nat} (ha : a < dA.2.2) (hcell : H[a]? = some cell) (hns : cell.vm.isStatics = false) (hkn : cell.vm ≠ .unknown) (hcls : cell.cls = D.1 10) (hne : D.1 10 ≠ D.1 11) (h0 : cell.slots[D.2 10 0]? = some (.ref q)) (h1 : cell.slots[D.2 10 1]? = some (.int x)) : en_G D dA H a = some (.inr (10, [.ref q, .int x])) := by
  have e0 : ¬ sOld D dA a (en_c D H a 0) H := en_notI hcell h0 (fun x h => by cases h)
  have e1 : ¬ sOld D dA a (en_c D H a 1) H := en_notI hcell h0 (fun x h => by cases h)
  have e2 : ¬ sOld D dA a (en_c D H a 2) H := en_notR hcell h1 (fun r h => by cases r <;> cases h)
  have e3 : ¬ sOld D dA a (en_c D H a 3) H := en_notO hcell (by rw [hcls]; exact hne)
  have e4 : sOld D dA a (en_c D H a 4) H := en_oldO (ci := 10) rfl ha hcell hns hkn hcls h0 h1
  unfold en_G
  rw [en_try_neg e0, en_try_neg e1, en_try_neg e2, en_try_neg e3, en_try_pos e4]
  show (some (Sum.inr (10, [en_v ((en_sl H a)[D.2 10 0]?), en_v ((en_sl H a)[D.2 10 1]?)]) : sC) : Option sC) = _
  rw [en_sl_of hcell, h0, h1]
  rfl
/-! reading -/
theorem en_aldI {G : sH} {t : FieldType} {n i : Nat} {f : Nat → Int32} (h : G a = some (.inl (t, (n, .inl f)))) (hi : i < n) (hn : n < 2147483648) : aldI t G a (ic i) = some (.int (f i)) := by
  unfold aldI
  rw [h]
  show (if t = t then (if ic i < 0 ∨ n ≤ (ic i).toNatClampNeg then none else some (Value.int (f (ic i).toNatClampNeg))) else none) = _
  rw [if_pos rfl, ic_nat (by omega), if_neg (fun q => q.elim (ic_nn (by omega)) (fun q => absurd hi (Nat.not_lt.mpr q)))]
theorem en_aldR {G : sH} {t : String} {n i : Nat} {f : Nat → Option Nat} (h : G a = some (.inl (.object t, (n, .inr (.inr (.inr (.inr f))))))) (hi : i < n) (hn : n < 2147483648) : aldR G a (ic i) = some (va_rf (f i)) := by
  unfold aldR
  rw [h]
  show (if ic i < 0 ∨ n ≤ (ic i).toNatClampNeg then none else some (va_rf (f (ic i).toNatClampNeg))) = _
  rw [ic_nat (by omega), if_neg (fun q => q.elim (ic_nn (by omega)) (fun q => absurd hi (Nat.not_lt.mpr q)))]
theorem en_alen {G : sH} {t : FieldType} {x : vp_A} (h : G a = some (.inl (t, x))) : alen G a = some (ic x.1) := by
  unfold alen
  rw [h]
  rfl
theorem en_gf {G : sH} {ci k : Nat} {fs : List Value} (h : G a = some (.inr (ci, fs))) : gf G a ci k = fs[k]? := by
  unfold gf
  rw [h]
  exact if_pos rfl
theorem en_ob {G : sH} {ci : Nat} {fs : List Value} (h : G a = some (.inr (ci, fs))) : isOb G a ci = true := by
  unfold isOb
  rw [h]
  exact decide_eq_true rfl
theorem en_old {G G' : sH} {m' : mm} {n0 : Nat} (ha : a < n0) (h : ∀ x, x < n0 → G' x = G x) : hp n0 G' m' a = G a := by
  unfold hp
  rw [if_neg (fun q => absurd ha (Nat.not_lt.mpr q.1)), h a ha]
/-! cells that the Statement speaks of -/
/-- an array, its length, its elements -/
theorem en_arr {tm : Term} {ty : FieldType} {N : Nat} {f : Nat → Value} (hN : N < 2147483648) (harr : (Cond.arrayOf tm ty).before args s = true) (hlen : (Cond.eq (.length tm) (.int (Int32.ofNat N))).before args s = true) (hel : ∀ j : Nat, j < N → (Term.elem tm (.int (Int32.ofNat j))).eval args s none [] s = some (f j)) : ∃ (t : Nat) (cell : Cell), tm.eval args s none [] s = some (.ref t) ∧ s.heap[t]? = some cell ∧ s.isArrayOf cell ty ∧ cell.vm ≠ .unknown ∧ cell.slots.size = N ∧ ∀ j : Nat, j < N → cell.slots[j]? = some (f j) := by
  have hl := va_eqt hlen
  obtain ⟨t, cell, ht, hat, hv⟩ := Term.length_spec hl
  obtain ⟨hcell, hkn, -, -⟩ := State.arrayAt?_spec hat
  obtain ⟨hof, -⟩ := Cond.arrayOf_spec harr ht hcell
  have hsz : cell.slots.size < 2147483648 := by
    refine Nat.lt_of_not_le (fun hge => ?_)
    have hl2 := hl
    simp only [Term.eval, Option.bind_eq_bind, ht, hat, Option.bind_some] at hl2
    first
      | (rw [if_neg (by omega)] at hl2; cases hl2; done)
      | (simp at hl2; omega)
  have hszN : cell.slots.size = N := by
    have e : Int32.ofNat N = Int32.ofNat cell.slots.size := Value.int.inj hv
    have e2 := congrArg Int32.toInt e
    rw [Int32.toInt_ofNat_of_lt hN, Int32.toInt_ofNat_of_lt hsz] at e2
    omega
  refine ⟨t, cell, ht, hcell, hof, hkn, hszN, fun j hj => ?_⟩
  obtain ⟨a, i, cell2, h1, h2, h3, h4, h5⟩ := Term.elem_spec (hel j hj)
  cases ht.symm.trans h1
  cases hat.symm.trans h3
  have hi : i = Int32.ofNat j := by
    have e : (Term.int (Int32.ofNat j)).eval args s none [] s = some (.int (Int32.ofNat j)) := rfl
    cases h2.symm.trans e
    rfl
  have hc : i.toNatClampNeg = j := by rw [hi]; exact Int32.toNatClampNeg_ofNat_of_lt (by omega)
  rw [hc] at h5
  exact h5
/-- a field of an object -/
theorem en_fld {t : Term} {o n d : String} {a sl : Nat} {v : Value} (hs : ∃ cf kf fi f, s.fieldFound? o n d = some (cf, kf, fi, f) ∧ f.slot = sl ∧ f.isStatic = false) (ht : t.eval args s none [] s = some (.ref a)) (hv : (Term.field t o n d).eval args s none [] s = some v) : ∃ cell : Cell, s.heap[a]? = some cell ∧ cell.vm ≠ .unknown ∧ cell.vm.isStatics = false ∧ cell.slots[sl]? = some v := by
  obtain ⟨cf, kf, fi, f, h1, h2, -⟩ := hs
  obtain ⟨-, cell, g2, g3, g4, -, g6⟩ := Term.field_spec h1 ht hv
  exact ⟨cell, g2, g3, g4, h2 ▸ g6⟩
end E1
