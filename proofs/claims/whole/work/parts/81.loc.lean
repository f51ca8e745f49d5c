/-! the locals, the rooms, the words -/
theorem lget_lt : ∀ (ls : sL) (i : Nat) (v : Value), lget ls i = some v → i < ls.length
  | [], _, _, h => by simp [lget] at h
  | _ :: _, 0, _, _ => by simp
  | _ :: t, i + 1, v, h => by
    have := lget_lt t i v h
    simp; omega
theorem lset1_len : ∀ (ls : sL) (i : Nat) (v : Value), (lset1 ls i v).length = ls.length
  | [], _, _ => by simp [lset1]
  | _ :: _, 0, _ => by simp [lset1]
  | _ :: t, 1, v => by simp [lset1, lset1_len t 0 v]
  | _ :: t, i + 2, v => by simp [lset1, lset1_len t (i + 1) v]
theorem lnone_len : ∀ (ls : sL) (i : Nat), (lnone ls i).length = ls.length
  | [], _ => by simp [lnone]
  | _ :: _, 0 => by simp [lnone]
  | _ :: t, i + 1 => by simp [lnone, lnone_len t i]
theorem ldrop_some {x : Option Value} {w : Value} (h : ldrop x = some w) : x = some w ∧ ¬ w.category = 2 := by
  unfold ldrop at h
  split at h
  · cases h
  · cases h
  · rename_i y h1 h2
    subst h
    refine ⟨rfl, fun hc => ?_⟩
    cases w with
    | long a => exact h1 a rfl
    | double a => exact h2 a rfl
    | _ => simp [Value.category] at hc
theorem lget_lset1 : ∀ (ls : sL) (i j : Nat) (v w : Value), lget (lset1 ls i v) j = some w → (j = i ∧ w = v) ∨ (j ≠ i ∧ lget ls j = some w ∧ ¬ (j + 1 = i ∧ w.category = 2))
  | [], _, _, _, _, h => by simp [lset1, lget] at h
  | _ :: t, 0, j, v, w, h => by
    cases j with
    | zero => simp [lset1, lget] at h; exact Or.inl ⟨rfl, h.symm⟩
    | succ j => simp [lset1, lget] at h; exact Or.inr ⟨by omega, by simpa [lget] using h, by omega⟩
  | x :: t, 1, j, v, w, h => by
    cases j with
    | zero =>
      simp only [lset1, lget] at h
      obtain ⟨h1, h2⟩ := ldrop_some h
      exact Or.inr ⟨by omega, by simpa [lget] using h1, fun q => h2 q.2⟩
    | succ j =>
      simp only [lset1, lget] at h
      rcases lget_lset1 t 0 j v w h with ⟨h1, h2⟩ | ⟨h1, h2, h3⟩
      · exact Or.inl ⟨by omega, h2⟩
      · exact Or.inr ⟨by omega, by simpa [lget] using h2, by omega⟩
  | x :: t, i + 2, j, v, w, h => by
    cases j with
    | zero => simp only [lset1, lget] at h; exact Or.inr ⟨by omega, by simpa [lget] using h, by omega⟩
    | succ j =>
      simp only [lset1, lget] at h
      rcases lget_lset1 t (i + 1) j v w h with ⟨h1, h2⟩ | ⟨h1, h2, h3⟩
      · exact Or.inl ⟨by omega, h2⟩
      · exact Or.inr ⟨by omega, by simpa [lget] using h2, fun q => h3 ⟨by omega, q.2⟩⟩
theorem lget_lnone : ∀ (ls : sL) (i j : Nat) (w : Value), lget (lnone ls i) j = some w → j ≠ i ∧ lget ls j = some w
  | [], _, _, _, h => by simp [lnone, lget] at h
  | _ :: t, 0, j, w, h => by
    cases j with
    | zero => simp [lnone, lget] at h
    | succ j => simp [lnone, lget] at h; exact ⟨by omega, by simpa [lget] using h⟩
  | x :: t, i + 1, j, w, h => by
    cases j with
    | zero => simp [lnone, lget] at h; exact ⟨by omega, by simpa [lget] using h⟩
    | succ j =>
      simp only [lnone, lget] at h
      obtain ⟨h1, h2⟩ := lget_lnone t i j w h
      exact ⟨by omega, by simpa [lget] using h2⟩
def lvl (ls : sL) : List (Nat × Value) := (List.range ls.length).filterMap (fun i => (lget ls i).map (fun v => (i, v)))
theorem lvl_mem {ls : sL} {i : Nat} {v : Value} : (i, v) ∈ lvl ls ↔ lget ls i = some v := by
  unfold lvl
  rw [List.mem_filterMap]
  constructor
  · rintro ⟨j, -, hj⟩
    cases h : lget ls j with
    | none => simp [h] at hj
    | some w =>
      simp [h] at hj
      obtain ⟨rfl, rfl⟩ := hj
      exact h
  · intro h
    exact ⟨i, List.mem_range.mpr (lget_lt ls i v h), by simp [h]⟩
theorem lrel.has {nL : Nat} {ls : sL} {lsA : Array Slot} (h : lrel nL ls lsA) : lv_has lsA nL (lvl ls) := ⟨h.1, h.2.2.1, fun q hq => h.2.2.2 q.1 q.2 (lvl_mem.mp hq)⟩
theorem lrel.of1 {nL i : Nat} {v : Value} {ls : sL} {lsA ls' : Array Slot} (h : lrel nL ls lsA) (h' : lv_has ls' nL ((i, v) :: (lvl ls).filter (fun q => !(q.1 == i) && !(q.1 + 1 == i && q.2.category == 2)))) : lrel nL (lset1 ls i v) ls' := by
  refine ⟨h'.1, by rw [lset1_len]; exact h.2.1, h'.2.1, fun j w hj => ?_⟩
  rcases lget_lset1 ls i j v w hj with ⟨h1, h2⟩ | ⟨h1, h2, h3⟩
  · subst h1; subst h2
    exact h'.2.2 (j, w) List.mem_cons_self
  · refine h'.2.2 (j, w) (List.mem_cons_of_mem _ (List.mem_filter.mpr ⟨lvl_mem.mpr h2, ?_⟩))
    simp only [Bool.and_eq_true, Bool.not_eq_true', beq_eq_false_iff_ne, Bool.and_eq_false_iff]
    refine ⟨h1, ?_⟩
    by_cases hq : j + 1 = i
    · exact Or.inr (fun hc => h3 ⟨hq, hc⟩)
    · exact Or.inl hq
theorem lrel.of2 {nL i : Nat} {v : Value} {ls : sL} {lsA ls' : Array Slot} (h : lrel nL ls lsA) (h' : lv_has ls' nL ((i, v) :: (lvl ls).filter (fun q => !(q.1 == i) && (!(q.1 == i + 1) && !(q.1 + 1 == i && q.2.category == 2))))) : lrel nL (lset2 ls i v) ls' := by
  refine ⟨h'.1, by unfold lset2; rw [lnone_len, lset1_len]; exact h.2.1, h'.2.1, fun j w hj => ?_⟩
  obtain ⟨h0, hj⟩ := lget_lnone _ _ _ _ hj
  rcases lget_lset1 ls i j v w hj with ⟨h1, h2⟩ | ⟨h1, h2, h3⟩
  · subst h1; subst h2
    exact h'.2.2 (j, w) List.mem_cons_self
  · refine h'.2.2 (j, w) (List.mem_cons_of_mem _ (List.mem_filter.mpr ⟨lvl_mem.mpr h2, ?_⟩))
    simp only [Bool.and_eq_true, Bool.not_eq_true', beq_eq_false_iff_ne, Bool.and_eq_false_iff]
    refine ⟨h1, h0, ?_⟩
    by_cases hq : j + 1 = i
    · exact Or.inr (fun hc => h3 ⟨hq, hc⟩)
    · exact Or.inl hq
theorem lrel.of0 {nL i : Nat} {v : Value} {ls : sL} {lsA ls' : Array Slot} (h : lrel nL ls lsA) (h' : lv_has ls' nL ((i, v) :: (lvl ls).filter (fun q => !(q.1 == i) && !(q.1 + 1 == i && q.2.category == 2)))) : lrel nL (lnone (lset1 ls i .null) i) ls' := by
  refine ⟨h'.1, by rw [lnone_len, lset1_len]; exact h.2.1, h'.2.1, fun j w hj => ?_⟩
  obtain ⟨h0, hj⟩ := lget_lnone _ _ _ _ hj
  rcases lget_lset1 ls i j .null w hj with ⟨h1, h2⟩ | ⟨h1, h2, h3⟩
  · exact absurd h1 h0
  · refine h'.2.2 (j, w) (List.mem_cons_of_mem _ (List.mem_filter.mpr ⟨lvl_mem.mpr h2, ?_⟩))
    simp only [Bool.and_eq_true, Bool.not_eq_true', beq_eq_false_iff_ne, Bool.and_eq_false_iff]
    refine ⟨h1, ?_⟩
    by_cases hq : j + 1 = i
    · exact Or.inr (fun hc => h3 ⟨hq, hc⟩)
    · exact Or.inl hq
def lflat (vs : List Value) : sL := vs.flatMap fun v => if v.category = 2 then [some v, none] else [some v]
theorem lflat_len (vs : List Value) : (lflat vs).length = (lg_sl vs).length := by
  induction vs with
  | nil => rfl
  | cons v t ih =>
    simp only [lflat, lg_sl, List.flatMap_cons, List.length_append] at ih ⊢
    rw [ih]
    split <;> rfl
theorem lget_rep : ∀ (n j : Nat), lget (List.replicate n none) j = none
  | 0, _ => by simp [lget]
  | n + 1, 0 => by simp [List.replicate, lget]
  | n + 1, j + 1 => by simp [List.replicate, lget, lget_rep n j]
theorem lget_flat (n : Nat) : ∀ (vs : List Value) (i0 j : Nat) (w : Value), lget (lflat vs ++ List.replicate n none) j = some w → (j + i0, w) ∈ lv_args i0 vs
  | [], i0, j, w, h => by simp [lflat, lget_rep] at h
  | v :: t, i0, j, w, h => by
    simp only [lflat, List.flatMap_cons] at h
    by_cases hc : v.category = 2
    · simp only [hc, if_true] at h
      simp only [lv_args, hc, if_true]
      cases j with
      | zero =>
        simp [lget] at h
        subst h
        simp
      | succ j =>
        cases j with
        | zero => simp [lget] at h
        | succ j =>
          simp only [List.cons_append, List.nil_append, lget] at h
          have := lget_flat n t (i0 + 2) j w (by simpa [lflat] using h)
          exact List.mem_cons_of_mem _ (by rw [show j + 1 + 1 + i0 = j + (i0 + 2) by omega]; exact this)
    · simp only [hc, if_false] at h
      simp only [lv_args, hc, if_false]
      cases j with
      | zero =>
        simp [lget] at h
        subst h
        simp
      | succ j =>
        simp only [List.cons_append, List.nil_append, lget] at h
        have := lget_flat n t (i0 + 1) j w (by simpa [lflat] using h)
        exact List.mem_cons_of_mem _ (by rw [show j + 1 + i0 = j + (i0 + 1) by omega]; exact this)
theorem lrel_entry (vs : List Value) {n : Nat} (h : (lg_sl vs).length ≤ n) : lrel n (lpad n vs) ((lg_sl vs ++ List.replicate (n - (lg_sl vs).length) Slot.unset).toArray) := by
  obtain ⟨h1, h2, h3⟩ := lv_entry vs h
  refine ⟨h1, ?_, h2, fun i v hv => ?_⟩
  · show (lflat vs ++ List.replicate (n - (lg_sl vs).length) none).length = n
    rw [List.length_append, List.length_replicate, lflat_len]
    omega
  · exact h3 (i, v) (by simpa using lget_flat _ vs 0 i v hv)
theorem popN_spec : ∀ (n : Nat) (st as rest : List Value), popN n st = some (as, rest) → st = as.reverse ++ rest ∧ as.length = n
  | 0, st, as, rest, h => by
    simp [popN] at h
    obtain ⟨rfl, rfl⟩ := h
    simp
  | n + 1, [], as, rest, h => by simp [popN] at h
  | n + 1, v :: st, as, rest, h => by
    simp only [popN] at h
    split at h
    · rename_i as' rest' h'
      cases h
      obtain ⟨h1, h2⟩ := popN_spec n st as' rest h'
      refine ⟨by rw [h1]; simp, by simp [h2]⟩
    · cases h
theorem tg_eq {pc : Nat} {off : Int} (h : 0 ≤ (pc : Int) + off) : (pc : Int) + off = (tg pc off : Int) := by
  unfold tg
  omega
/-- constructors that a throw asks to be declared -/
def THD : List MethodName := [⟨"java/lang/RuntimeException", "<init>", "()V"⟩, ⟨"java/lang/Exception", "<init>", "()V"⟩, ⟨"java/lang/Throwable", "<init>", "()V"⟩]
/-- what the evaluator takes as given of a state: words, classes, statics, exceptions -/
def sCx (E : sV) (D : va_G) (dA : sDA) (U : State) : Prop :=
  (∀ a' : Array Value, ∀ w ∈ TB, w.before a' U = true) ∧ sK D dA U ∧
  (∀ own i y host, Cond.methodLinkNest own i y host ∈ lw_tbl → va_Nw (.methodLinkNest own i y host) U) ∧
  (∀ own i r n d host, Cond.fieldLinkNest own i r n d host ∈ lw_tbl → va_Nw (.fieldLinkNest own i r n d host) U) ∧
  (∀ C, Cond.arrayOver (.object C) ∈ lw_tbl → va_AO C U) ∧
  (∀ X ∈ XN, va_Nw (.castable X X) U) ∧ (∀ X ∈ XN, ∀ Y ∈ XN, X ≠ Y → va_Nc X Y U) ∧
  (∀ (si : Nat) (q : String × String × String), gSt[si]? = some q → va_Z q.1 q.2.1 q.2.2 (E.2 si) (fun z => E.1 ≤ z) U U.heap) ∧
  (∃ a, E.2 7 = .ref a ∧ vk_R "RepairBarrows" 266 " t" a U) ∧
  vx_Zq Bundle.tN "UNASSIGNED_STACK" Bundle.steD (fun z => E.1 ≤ z) U U.heap ∧ vx_Zq Bundle.tN "SUPPRESSED_SENTINEL" Bundle.listD (fun z => E.1 ≤ z) U U.heap ∧
  (∀ x ∈ THD, va_Nw (.declares x) U) ∧ dA.2.2 = E.1
theorem sCx.mv {E : sV} {D : va_G} {dA : sDA} {u U : State} (h : sCx E D dA u) (hW : u.WarmedH U.vm) (hq : ∀ z : Nat, z < u.heap.size → ¬ E.1 ≤ z → U.heap[z]? = u.heap[z]?) : sCx E D dA U := by
  obtain ⟨h1, h2, h3, h4, h5, h6, h7, h8, ⟨a, h9, h9'⟩, h10, h11, h12, h13⟩ := h
  have hA := hW.alike
  exact ⟨fun a' w hw => word_at hW (good_of_word (TB_good hw)) (h1 #[] w hw), h2.moved hA, fun own i y host hm => (h3 own i y host hm).warmM hW, fun own i r n d host hm => (h4 own i r n d host hm).warmF hW, fun C hm => (h5 C hm).moved hA, fun X hX => (h6 X hX).warmC hW, fun X hX Y hY hne => (h7 X hX Y hY hne).moved hA,
    fun si q hs => va_Z.moved hA ((h8 si q hs).kept hq), ⟨a, h9, h9'.warm hW⟩, vx_Zq.moved hA (h10.kept hq), vx_Zq.moved hA (h11.kept hq), fun x hx => (h12 x hx).warmD hW, h13⟩
