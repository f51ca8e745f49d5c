/-! the words, the classes, the array classes at the start -/
section E3
variable {s : State} {args : Array Value} {D : va_G} {dA : sDA}
theorem en_ne {C C' : String} {c c' : ClassId} (h : s.vm.findClass C = some c) (h' : s.vm.findClass C' = some c') (hne : C ≠ C') : c ≠ c' := by
  rintro rfl
  obtain ⟨k, hk, e⟩ := Vm.findClass_spec h
  obtain ⟨k', hk', e'⟩ := Vm.findClass_spec h'
  cases hk.symm.trans hk'
  exact hne (e.symm.trans e')
/-- a private method of AbstractStringBuilder, called on a StringBuilder -/
theorem en_sel {y : MethodName} (hy : y.cls ≠ "java/lang/invoke/MethodHandle" ∧ y.cls ≠ "java/lang/invoke/VarHandle") (hI : (Cond.selects "java/lang/StringBuilder" ⟨"java/lang/AbstractStringBuilder", "isLatin1", "()Z"⟩ ⟨"java/lang/AbstractStringBuilder", "isLatin1", "()Z"⟩).before args s = true) (hc : y.cls = "java/lang/AbstractStringBuilder") (hpriv : (Cond.privateMethod y).before args s = true) (hinst : (Cond.instanceMethod y).before args s = true) : (Cond.selects "java/lang/StringBuilder" y y).before args s = true := by
  obtain ⟨c, r, m, h1, h2, h3, h4, mk, h5, h6⟩ := Cond.selects_spec hI
  obtain ⟨mk', methM, hnamed, hmethM, -, -⟩ := Cond.instanceMethod_spec hinst
  have hfound : s.methodFound? y.cls y.name y.desc = some mk' := State.methodFound?_of_named hnamed hy
  have hsel : selectMethod {} s.vm c mk' = .method mk' := selectMethod_private hmethM (Cond.privateMethod_at hpriv mk' methM hnamed hmethM)
  have e1 := findClass_of_methodNamed h3
  have e2 := findClass_of_methodNamed hnamed
  rw [hc] at e2
  have hcls : mk'.cls = m.cls := Option.some.inj (e2.symm.trans e1)
  simp only [Cond.before, Cond.holds, Cond.value, h1, hfound, hnamed, hsel, hcls, h5]
  simp
  exact h6
theorem en_TB (hts : ∀ w ∈ lw_tbl, w.before args s = true) : ∀ a' : Array Value, ∀ w ∈ TB, w.before a' s = true := by
  intro a' w hw
  have hg := good_of_word (TB_good hw)
  have hx : w ∈ TBx := (List.mem_filter.mp hw).1
  refine word_at (args := args) (State.WarmedH.refl s) hg ?_
  unfold TBx at hx
  rcases List.mem_append.mp hx with h | h
  · obtain ⟨y, hy, rfl⟩ := List.mem_map.mp h
    have hI : (Cond.selects "java/lang/StringBuilder" ⟨"java/lang/AbstractStringBuilder", "isLatin1", "()Z"⟩ ⟨"java/lang/AbstractStringBuilder", "isLatin1", "()Z"⟩).before args s = true := (hts _ (List.mem_of_getElem? (i := 1177) (by decide +kernel)))
    simp only [sbP, List.mem_cons, List.not_mem_nil, or_false] at hy
    rcases hy with rfl | rfl | rfl | rfl
    · exact en_sel ⟨by decide +kernel, by decide +kernel⟩ hI rfl (hts _ (List.mem_of_getElem? (i := 1146) (by decide +kernel))) (hts _ (List.mem_of_getElem? (i := 1147) (by decide +kernel)))
    · exact en_sel ⟨by decide +kernel, by decide +kernel⟩ hI rfl (hts _ (List.mem_of_getElem? (i := 1150) (by decide +kernel))) (hts _ (List.mem_of_getElem? (i := 1151) (by decide +kernel)))
    · exact en_sel ⟨by decide +kernel, by decide +kernel⟩ hI rfl (hts _ (List.mem_of_getElem? (i := 1215) (by decide +kernel))) (hts _ (List.mem_of_getElem? (i := 1216) (by decide +kernel)))
    · exact en_sel ⟨by decide +kernel, by decide +kernel⟩ hI rfl (hts _ (List.mem_of_getElem? (i := 1219) (by decide +kernel))) (hts _ (List.mem_of_getElem? (i := 1220) (by decide +kernel)))
  · exact hts w h
/-- a class of the table with its fields' slots -/
theorem en_cls {C : String} {T : u_T} {N n : Nat} (hTB : ∀ w ∈ TB, w.before args s = true) (hin : ∀ w ∈ u_ws C T N, w ∈ TB) (hi : (Cond.instantiable C n).before args s = true) : ∃ (cC : ClassId) (iS : Nat → Nat), ClassAt s C cC ∧ ∀ k, k < N → ∃ cf kf fi f, s.fieldFound? (T k).1 (T k).2.1 (T k).2.2.1 = some (cf, kf, fi, f) ∧ f.slot = iS k ∧ f.isStatic = false := by
  obtain ⟨cC, iS, hS, hat⟩ := u_known hTB hin hi
  refine ⟨cC, iS, hat, fun k hk => ?_⟩
  obtain ⟨cf, kf, fi, f, h1, h2⟩ := hS k hk
  obtain ⟨hfc, kC, hkC, hkind⟩ := hat
  exact ⟨cf, kf, fi, f, h1, h2, (u_facts hfc hkC (u_lays hTB hin hk) h1).1⟩
/-- a field that is read is there -/
theorem en_ff {t : Term} {o n d : String} {v : Value} (hv : (Term.field t o n d).eval args s none [] s = some v) : ∃ cf kf fi f, s.fieldFound? o n d = some (cf, kf, fi, f) ∧ f.isStatic = false := by
  cases ht : t.eval args s none [] s with
  | none => simp [Term.eval, ht] at hv
  | some x =>
    cases x with
    | ref a =>
      cases hfo : s.fieldFound? o n d with
      | none =>
        rw [va_fe ht] at hv
        simp [State.fieldOf?, State.fieldNamed?, hfo] at hv
      | some x =>
        obtain ⟨cf, kf, fi, f⟩ := x
        exact ⟨cf, kf, fi, f, rfl, (Term.field_spec hfo ht hv).1⟩
    | _ => simp [Term.eval, ht] at hv
theorem en_cin10 : ∀ w ∈ u_ws gR10 gT10 2, w ∈ TB := by
  show ∀ w ∈ [u_lay gR10 gT10 0, u_lay gR10 gT10 1], w ∈ TB
  exact List.forall_mem_cons.mpr ⟨List.mem_filter.mpr ⟨List.mem_of_getElem? (i := 766) (by decide +kernel), by decide +kernel⟩, List.forall_mem_cons.mpr ⟨List.mem_filter.mpr ⟨List.mem_of_getElem? (i := 768) (by decide +kernel), by decide +kernel⟩, fun _ h => absurd h List.not_mem_nil⟩⟩
theorem en_D {v0 v1 : Value} {t0 t1 : Term} (hts : ∀ w ∈ lw_tbl, w.before args s = true) (hO : (Term.field t0 "java/lang/Enum" "ordinal" "I").eval args s none [] s = some v0) (hS : (Term.field t1 "RepairBarrows$Verb" "shape" "Ljava/lang/String;").eval args s none [] s = some v1) : ∃ D : va_G, ∀ (ci : Nat) (q : vw_C), gC[ci]? = some q → clsK s ci q.1 (D.1 ci) ∧ ∀ k, k < q.2.2 → ∃ cf kf fi f, s.fieldFound? (q.2.1 k).1 (q.2.1 k).2.1 (q.2.1 k).2.2.1 = some (cf, kf, fi, f) ∧ f.slot = D.2 ci k ∧ f.isStatic = false := by
  have hTB := en_TB hts args
  have h : ∀ ci : Nat, ∃ x : ClassId × (Nat → Nat), ∀ q : vw_C, gC[ci]? = some q → clsK s ci q.1 x.1 ∧ ∀ k, k < q.2.2 → ∃ cf kf fi f, s.fieldFound? (q.2.1 k).1 (q.2.1 k).2.1 (q.2.1 k).2.2.1 = some (cf, kf, fi, f) ∧ f.slot = x.2 k ∧ f.isStatic = false := by
    intro ci
    match ci with
    | 0 =>
      obtain ⟨c, i, h1, h2⟩ := en_cls (C := gR0) (T := gT0) (N := 5) (n := 5) hTB cin0 (hts _ (List.mem_of_getElem? (i := 181) (by decide +kernel)))
      exact ⟨(c, i), fun q hq => by cases hq; exact ⟨⟨h1.1, fun _ => h1.2⟩, h2⟩⟩
    | 1 =>
      obtain ⟨c, i, h1, h2⟩ := en_cls (C := gR1) (T := gT1) (N := 2) (n := 2) hTB cin1 (hts _ (List.mem_of_getElem? (i := 322) (by decide +kernel)))
      exact ⟨(c, i), fun q hq => by cases hq; exact ⟨⟨h1.1, fun _ => h1.2⟩, h2⟩⟩
    | 2 =>
      obtain ⟨c, i, h1, h2⟩ := en_cls (C := gR2) (T := gT2) (N := 3) (n := 3) hTB cin2 (hts _ (List.mem_of_getElem? (i := 255) (by decide +kernel)))
      exact ⟨(c, i), fun q hq => by cases hq; exact ⟨⟨h1.1, fun _ => h1.2⟩, h2⟩⟩
    | 3 =>
      obtain ⟨c, i, h1, h2⟩ := en_cls (C := gR3) (T := gT3) (N := 8) (n := 8) hTB cin3 (hts _ (List.mem_of_getElem? (i := 133) (by decide +kernel)))
      exact ⟨(c, i), fun q hq => by cases hq; exact ⟨⟨h1.1, fun _ => h1.2⟩, h2⟩⟩
    | 4 =>
      obtain ⟨c, i, h1, h2⟩ := en_cls (C := gR4) (T := gT4) (N := 9) (n := 9) hTB cin4 (hts _ (List.mem_of_getElem? (i := 275) (by decide +kernel)))
      exact ⟨(c, i), fun q hq => by cases hq; exact ⟨⟨h1.1, fun _ => h1.2⟩, h2⟩⟩
    | 5 =>
      obtain ⟨c, i, h1, h2⟩ := en_cls (C := gR5) (T := gT5) (N := 5) (n := 5) hTB cin5 (hts _ (List.mem_of_getElem? (i := 315) (by decide +kernel)))
      exact ⟨(c, i), fun q hq => by cases hq; exact ⟨⟨h1.1, fun _ => h1.2⟩, h2⟩⟩
    | 6 =>
      obtain ⟨c, i, h1, h2⟩ := en_cls (C := gR6) (T := gT6) (N := 9) (n := 9) hTB cin6 (hts _ (List.mem_of_getElem? (i := 124) (by decide +kernel)))
      exact ⟨(c, i), fun q hq => by cases hq; exact ⟨⟨h1.1, fun _ => h1.2⟩, h2⟩⟩
    | 7 =>
      obtain ⟨c, i, h1, h2⟩ := en_cls (C := gR7) (T := gT7) (N := 9) (n := 9) hTB cin7 (hts _ (List.mem_of_getElem? (i := 116) (by decide +kernel)))
      exact ⟨(c, i), fun q hq => by cases hq; exact ⟨⟨h1.1, fun _ => h1.2⟩, h2⟩⟩
    | 8 =>
      obtain ⟨c, i, h1, h2⟩ := en_cls (C := gR8) (T := gT8) (N := 23) (n := 23) hTB cin8 (hts _ (List.mem_of_getElem? (i := 1558) (by decide +kernel)))
      exact ⟨(c, i), fun q hq => by cases hq; exact ⟨⟨h1.1, fun _ => h1.2⟩, h2⟩⟩
    | 9 =>
      obtain ⟨c, i, h1, h2⟩ := en_cls (C := gR9) (T := gT9) (N := 4) (n := 4) hTB cin9 (hts _ (List.mem_of_getElem? (i := 360) (by decide +kernel)))
      exact ⟨(c, i), fun q hq => by cases hq; exact ⟨⟨h1.1, fun _ => h1.2⟩, h2⟩⟩
    | 10 =>
      obtain ⟨c, i, h1, h2⟩ := en_cls (C := gR10) (T := gT10) (N := 2) (n := 4) hTB en_cin10 (hts _ (List.mem_of_getElem? (i := 761) (by decide +kernel)))
      exact ⟨(c, i), fun q hq => by cases hq; exact ⟨⟨h1.1, fun _ => h1.2⟩, h2⟩⟩
    | 11 =>
      obtain ⟨cf, kf, fi, f, h1, h2⟩ := en_ff hO
      obtain ⟨cf', kf', fi', f', h1', h2'⟩ := en_ff hS
      have hini : (Cond.initialized "RepairBarrows$Verb").before args s = true := (hts _ (List.mem_of_getElem? (i := 89) (by decide +kernel)))
      have hc : ∃ c, s.vm.findClass "RepairBarrows$Verb" = some c := by
        cases hc : s.vm.findClass "RepairBarrows$Verb" with
        | none => simp [Cond.before, Cond.holds, Cond.value, hc] at hini
        | some c => exact ⟨c, rfl⟩
      obtain ⟨c, hc⟩ := hc
      refine ⟨(c, fun k => if k = 0 then f.slot else f'.slot), fun q hq => ?_⟩
      cases hq
      refine ⟨⟨hc, fun h => absurd h (by decide)⟩, fun k hk => ?_⟩
      have hk : k < 2 := hk
      rcases (show k = 0 ∨ k = 1 by omega) with rfl | rfl
      · exact ⟨cf, kf, fi, f, h1, rfl, h2⟩
      · exact ⟨cf', kf', fi', f', h1', rfl, h2'⟩
    | ci + 12 =>
      refine ⟨(0, fun _ => 0), fun q hq => ?_⟩
      rw [List.getElem?_eq_none (by show 12 ≤ ci + 12; omega)] at hq
      cases hq
  obtain ⟨f, hf⟩ := Classical.axiomOfChoice h
  exact ⟨(fun ci => (f ci).1, fun ci => (f ci).2), fun ci q hq => hf ci q hq⟩
theorem en_arrT {c : ClassId} {k : Class} {comp : ClassId} {t : FieldType} (hk : s.vm.classes[c]? = some k) (hkind : k.kind = .array comp t) : ArrOfT s c t := fun n z => ⟨(fun q h => nomatch h), k, hk, comp, hkind⟩
theorem en_acls {C : String} (h : (Cond.arrayOver (.object C)).before args s = true) : ∃ cA, ArrOfT s cA (.object C) ∧ va_RA s cA (.object C) := by
  obtain ⟨comp, c, k, h1, -, h3, h4, h5⟩ := Cond.arrayOver_spec h
  exact ⟨c, en_arrT h3 h4, k, comp, h3, h4, h1, h5⟩
theorem en_A (hts : ∀ w ∈ lw_tbl, w.before args s = true) : ∃ fA : FieldType → ClassId, ∀ t ∈ aTy, ArrOfT s (fA t) t ∧ va_RA s (fA t) t := by
  have hTB := en_TB hts args
  have h : ∀ t : FieldType, ∃ cA : ClassId, t ∈ aTy → ArrOfT s cA t ∧ va_RA s cA t := by
    intro t
    by_cases ht : t ∈ aTy
    · have h2 : ∃ cA : ClassId, ArrOfT s cA t ∧ va_RA s cA t := by
        simp only [aTy, List.mem_cons, List.not_mem_nil, or_false] at ht
        rcases ht with rfl | rfl | rfl | rfl | rfl | rfl | rfl | rfl | rfl | rfl
        · obtain ⟨c, k, comp, h1, h2, h3⟩ := Cond.arrayClass_spec (hTB _ tba_int)
          exact ⟨c, en_arrT h2 h3, h1⟩
        · obtain ⟨c, k, comp, h1, h2, h3⟩ := Cond.arrayClass_spec (hTB _ tba_char)
          exact ⟨c, en_arrT h2 h3, h1⟩
        · obtain ⟨c, k, comp, h1, h2, h3⟩ := Cond.arrayClass_spec (hTB _ tba_byte)
          exact ⟨c, en_arrT h2 h3, h1⟩
        · obtain ⟨c, k, comp, h1, h2, h3⟩ := Cond.arrayClass_spec (hTB _ tba_boolean)
          exact ⟨c, en_arrT h2 h3, h1⟩
        · obtain ⟨c, k, comp, h1, h2, h3⟩ := Cond.arrayClass_spec (hTB _ tba_long)
          exact ⟨c, en_arrT h2 h3, h1⟩
        · obtain ⟨c, k, comp, h1, h2, h3⟩ := Cond.arrayClass_spec (hTB _ tba_double)
          exact ⟨c, en_arrT h2 h3, h1⟩
        · exact en_acls (hts _ (List.mem_of_getElem? (i := 130) (by decide +kernel)))
        · exact en_acls (hts _ (List.mem_of_getElem? (i := 132) (by decide +kernel)))
        · exact en_acls (hts _ (List.mem_of_getElem? (i := 261) (by decide +kernel)))
        · exact en_acls (hts _ (List.mem_of_getElem? (i := 321) (by decide +kernel)))
      obtain ⟨cA, h2⟩ := h2
      exact ⟨cA, fun _ => h2⟩
    · exact ⟨0, fun h => absurd h ht⟩
  obtain ⟨f, hf⟩ := Classical.axiomOfChoice h
  exact ⟨f, hf⟩
theorem en_cast {X : String} (h : (Cond.initialized X).before args s = true) : va_Nw (.castable X X) s := by
  unfold va_Nw
  simp only [Cond.before, Cond.holds, Cond.value] at h ⊢
  cases hc : s.vm.findClass X with
  | none => simp [hc] at h
  | some c => simp [va_asg]
theorem en_castX (hts : ∀ w ∈ lw_tbl, w.before args s = true) : ∀ X ∈ XN, va_Nw (.castable X X) s := by
  intro X hX
  simp only [XN, List.mem_cons, List.not_mem_nil, or_false] at hX
  rcases hX with rfl | rfl | rfl | rfl | rfl | rfl
  · exact en_cast (hts _ (List.mem_of_getElem? (i := 99) (by decide +kernel)))
  · exact en_cast (hts _ (List.mem_of_getElem? (i := 100) (by decide +kernel)))
  · exact en_cast (hts _ (List.mem_of_getElem? (i := 101) (by decide +kernel)))
  · exact en_cast (hts _ (List.mem_of_getElem? (i := 102) (by decide +kernel)))
  · exact en_cast (hts _ (List.mem_of_getElem? (i := 103) (by decide +kernel)))
  · exact en_cast (hts _ (List.mem_of_getElem? (i := 106) (by decide +kernel)))
theorem en_thd (hts : ∀ w ∈ lw_tbl, w.before args s = true) : ∀ x ∈ THD, va_Nw (.declares x) s := by
  intro x hx
  simp only [THD, List.mem_cons, List.not_mem_nil, or_false] at hx
  rcases hx with rfl | rfl | rfl
  · exact va_Nw.of rfl (hts _ (List.mem_of_getElem? (i := 583) (by decide +kernel)))
  · exact va_Nw.of rfl (hts _ (List.mem_of_getElem? (i := 585) (by decide +kernel)))
  · exact va_Nw.of rfl (hts _ (List.mem_of_getElem? (i := 587) (by decide +kernel)))
def en_cx (i j : Nat) : Nat := ([[0, 365, 403, 384, 420, 439], [346, 0, 404, 385, 421, 440], [347, 366, 0, 386, 422, 441], [348, 367, 405, 0, 423, 442], [349, 368, 406, 387, 0, 443], [351, 370, 407, 389, 425, 0]].getD i []).getD j 0
theorem en_cxk : ∀ i, i < 6 → ∀ j, j < 6 → i ≠ j → en_F[en_cx i j]? = some (.not (.castable (XN.getD i "") (XN.getD j ""))) := by decide +kernel
theorem en_ncast (hF : ∀ w ∈ en_F, w.before args s = true) : ∀ X ∈ XN, ∀ Y ∈ XN, X ≠ Y → va_Nc X Y s := by
  intro X hX Y hY hne
  obtain ⟨i, hi⟩ := List.mem_iff_getElem?.mp hX
  obtain ⟨j, hj⟩ := List.mem_iff_getElem?.mp hY
  have hi6 : i < 6 := (List.getElem?_eq_some_iff.mp hi).1
  have hj6 : j < 6 := (List.getElem?_eq_some_iff.mp hj).1
  have h := en_cxk i hi6 j hj6 (fun e => by subst e; exact hne (Option.some.inj (hi.symm.trans hj)))
  rw [List.getD_eq_getElem?_getD, List.getD_eq_getElem?_getD, hi, hj] at h
  exact va_Nc.of (hF _ (List.mem_of_getElem? h))
end E3
