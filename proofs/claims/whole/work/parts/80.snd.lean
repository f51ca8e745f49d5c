/-! WHAT THE EVALUATOR ANSWERS, THE MACHINE DOES: heap rows -/
/-- the class that new makes of an array; the classes of the launch's arrays; where the launch's cells end -/
abbrev sDA : Type := (FieldType → ClassId) × (FieldType → ClassId → Prop) × Nat
def sE (dA : sDA) (c : sC) : va_E := match c with
  | .inl (t, a) => .inl (dA.1 t, a)
  | .inr o => .inr o
/-- the launch's own cells: read only -/
def sOld (D : va_G) (dA : sDA) (a : Nat) (c : sC) (H : Heap) : Prop := a < dA.2.2 ∧ ∃ cell : Cell, H[a]? = some cell ∧ (∀ k, cell.vm ≠ .statics k) ∧ cell.vm ≠ .unknown ∧ match c with
  | .inl x => dA.2.1 x.1 cell.cls ∧ cell.slots = (vp_cell (dA.1 x.1) x.2).slots
  | .inr o => ∃ r : vw_C, gC[o.1]? = some r ∧ cell.cls = D.1 o.1 ∧ ∀ k, k < r.2.2 → cell.slots[D.2 o.1 k]? = some (vp_V o.2 k)
def sP (D : va_G) (dA : sDA) (h : sH) (H : Heap) : Prop := ∀ (a : Nat) (c : sC), h a = some c → (va_at D gC (a, sE dA c) H ∧ ∀ t x, c = .inl (t, x) → t ∈ aTy) ∨ sOld D dA a c H
theorem sOld.kept {D : va_G} {dA : sDA} {a : Nat} {c : sC} {H H1 : Heap} (h : sOld D dA a c H) (e : H1[a]? = H[a]?) : sOld D dA a c H1 := by
  obtain ⟨h1, cell, h2, h3⟩ := h
  exact ⟨h1, cell, e.trans h2, h3⟩
theorem sOld.lt {D : va_G} {dA : sDA} {a : Nat} {c : sC} {H : Heap} (h : sOld D dA a c H) : a < H.size := by
  obtain ⟨h1, cell, h2, h3⟩ := h
  exact (Array.getElem?_eq_some_iff.mp h2).1
/-- a class of the table: of the last one (the launch's own verbs) the kind is not known -/
def clsK (U : State) (ci : Nat) (C : String) (cC : ClassId) : Prop := U.vm.findClass C = some cC ∧ (ci < 11 → ∃ kC : Class, U.vm.classes[cC]? = some kC ∧ kC.kind = .ordinary)
theorem clsK.at {U : State} {ci : Nat} {C : String} {cC : ClassId} (h : clsK U ci C cC) (hi : ci < 11) : ClassAt U C cC := ⟨h.1, h.2 hi⟩
theorem clsK.moved {u U : State} {ci : Nat} {C : String} {cC : ClassId} (hvm : u.vm.Alike U.vm) (h : clsK u ci C cC) : clsK U ci C cC := ⟨by rw [hvm.findClass]; exact h.1, fun hi => (classAt_moved hvm (h.at hi)).2⟩
theorem aTy_lt {ci : Nat} {q : vw_C} (hq : gC[ci]? = some q) (ht : FieldType.object q.1 ∈ aTy) : ci < 11 := by
  refine Nat.lt_of_not_le (fun h => ?_)
  rcases Nat.lt_or_ge ci 12 with h2 | h2
  · have : ci = 11 := by omega
    subst this
    cases hq
    exact absurd ht (by decide +kernel)
  · rw [List.getElem?_eq_none (by simpa [gC] using h2)] at hq
    cases hq
/-- what the tables say of the classes of objects and of arrays -/
def sK (D : va_G) (dA : sDA) (U : State) : Prop :=
  (∀ (ci : Nat) (q : vw_C), gC[ci]? = some q → clsK U ci q.1 (D.1 ci) ∧ ∀ k, k < q.2.2 → ∃ cf kf fi f, U.fieldFound? (q.2.1 k).1 (q.2.1 k).2.1 (q.2.1 k).2.2.1 = some (cf, kf, fi, f) ∧ f.slot = D.2 ci k ∧ f.isStatic = false) ∧
  (∀ t ∈ aTy, ArrOfT U (dA.1 t) t ∧ va_RA U (dA.1 t) t) ∧ ∀ t cA, dA.2.1 t cA → ArrOfT U cA t
theorem sK.moved {D : va_G} {dA : sDA} {u U : State} (hvm : u.vm.Alike U.vm) (h : sK D dA u) : sK D dA U := by
  refine ⟨fun ci q hq => ⟨(h.1 ci q hq).1.moved hvm, fun k hk => ?_⟩, fun t ht => ⟨arrOfT_moved hvm (h.2.1 t ht).1, (h.2.1 t ht).2.moved hvm⟩, fun t cA hc => arrOfT_moved hvm (h.2.2 t cA hc)⟩
  obtain ⟨cf, kf, fi, f, h1, h2, h3⟩ := (h.1 ci q hq).2 k hk
  obtain ⟨kf', hi', -⟩ := State.fieldFound?_setVm (s := u) hvm h1
  exact ⟨cf, kf', fi, f, by simpa only [State.fieldFound?, State.vm_setVm] using hi', h2, h3⟩
theorem sP.set {D : va_G} {dA : sDA} {h : sH} {H H1 : Heap} {a : Nat} {c : sC} (hP : sP D dA h H) (he : va_at D gC (a, sE dA c) H1) (ht : ∀ t x, c = .inl (t, x) → t ∈ aTy) (oq : ∀ q : Nat, q ≠ a → H1[q]? = H[q]?) : sP D dA (hset h a c) H1 := by
  intro q d hq
  unfold hset at hq
  split at hq
  · rename_i e
    cases hq
    subst e
    exact Or.inl ⟨he, ht⟩
  · rename_i e
    exact (hP q d hq).imp (fun z => ⟨z.1.kept (oq q e), z.2⟩) (fun z => z.kept (oq q e))
theorem sP.push {D : va_G} {dA : sDA} {h : sH} {H H1 : Heap} {c : sC} {n : Nat} (hP : sP D dA h H) (hn : H.size = n) (he : va_at D gC (n, sE dA c) H1) (ht : ∀ t x, c = .inl (t, x) → t ∈ aTy) (oq : ∀ q : Nat, q < n → H1[q]? = H[q]?) : sP D dA (hset h n c) H1 := by
  intro q d hq
  unfold hset at hq
  split at hq
  · rename_i e
    cases hq
    subst e
    exact Or.inl ⟨he, ht⟩
  · exact (hP q d hq).imp (fun z => ⟨z.1.kept (oq q (by rw [← hn]; exact z.1.lt)), z.2⟩) (fun z => z.kept (oq q (by rw [← hn]; exact z.lt)))
def lrel (nL : Nat) (ls : sL) (lsA : Array Slot) : Prop := lsA.size = nL ∧ ls.length = nL ∧ lv_wf lsA ∧ ∀ i v, lget ls i = some v → lsA[i]? = some (.val v)
section SND
variable {p : Program} {l : Launch} {e : Env} {R : Room} {s : State} {m : MethodId} {args : Array Value} {below : List Frame} {meth : Method} {c : Code} {H : Heap} {locs : List Loc} {cells slots : Nat} {Q : State → Prop}
variable {cc : ByteArray} {pc : Nat} {ls : Array Slot} {rest : List Value} {D : va_G} {dA : sDA} {A : Nat → Prop} {H0 : Heap} {h : sH} {a : Nat}
theorem snd_getf (hexec : p.tables.exec = Jvm.exec) (hb : c.code = cc) {own : String} {ci k index : Nat} {q : vw_C} {v : Value} (hown : s.vm.findClass own = some m.cls) (hK : sK D dA s) (hP : sP D dA h H) (hq : gC[ci]? = some q) (hk : k < q.2.2) (hlink : (Cond.fieldLink own index (q.2.1 k).1 (q.2.1 k).2.1 (q.2.1 k).2.2.1).before args s = true) (hv : gf h a ci k = some v) (hdg : decode cc pc = .ok (.getfield index, 3))
    (kk : W p l e R s m args below meth c H locs cells slots Q (F0 m (pc + 3) ls (v :: rest))) : W p l e R s m args below meth c H locs cells slots Q (F0 m pc ls (.ref a :: rest)) := by
  unfold gf at hv
  split at hv
  · rename_i c' fs hc
    split at hv
    · rename_i e1
      subst e1
      obtain ⟨r, h1, cell, q1, q2, q3, q4⟩ : ∃ r : vw_C, gC[c']? = some r ∧ ∃ cell : Cell, H[a]? = some cell ∧ cell.cls = D.1 c' ∧ cell.vm ≠ .unknown ∧ ∀ k, k < r.2.2 → cell.slots[D.2 c' k]? = some (vp_V fs k) := by
        rcases hP a _ hc with ⟨⟨r, h1, cell, q1, q2, q3, q4⟩, -⟩ | ⟨-, cell, q1, -, q3, r, h1, q2, q4⟩
        · exact ⟨r, h1, cell, q1, q2, (by rw [q3]; exact fun h => by cases h), q4⟩
        · exact ⟨r, h1, cell, q1, q2, q3, q4⟩
      have hr : r = q := Option.some.inj (h1.symm.trans hq)
      subst hr
      obtain ⟨cf, kf, fi, f, hi, hsl, hst⟩ := (hK.1 _ _ hq).2 k hk
      refine W.getf hexec hb hown hlink hi hst q1 q3 (v := v) ?_ rfl rfl hdg kk
      rw [hsl, q4 k hk]
      simp [vp_V, hv]
    · cases hv
  · cases hv
theorem snd_putf (hexec : p.tables.exec = Jvm.exec) (hb : c.code = cc) {r : gM} {ci k index : Nat} {q : vw_C} {y : Nat → FieldType} {v : Value} {h1 : sH} {Ts : List Cond} (hts : ∀ w ∈ Ts, w.before args s = true) (hin : ∀ w ∈ u_ws q.1 q.2.1 q.2.2, w ∈ Ts) (hty : ∀ k, k < q.2.2 → parseFieldDescriptor (q.2.1 k).2.2.1 = some (y k)) (hnm : ∀ a, a < q.2.2 → ∀ b, b < q.2.2 → a ≠ b → (q.2.1 a).2.1 ≠ (q.2.1 b).2.1)
    (hown : s.vm.findClass r.1.cls = some m.cls) (hmn : meth.name = r.1.name) (hK : sK D dA s) (hP : sP D dA h H) (hS : va_S A H0 H locs) (haA : A a) (hTh : ∀ q, A q → dA.2.2 ≤ q) (hq : gC[ci]? = some q) (hy : gY[ci]? = some y) (hlink : (Cond.fieldLink r.1.cls index (q.2.1 k).1 (q.2.1 k).2.1 (q.2.1 k).2.2.1).before args s = true) (hok : pfOk r ci k v = true) (hv : pf h a ci k v = some h1) (hdg : decode cc pc = .ok (.putfield index, 3))
    (kk : ∀ (H1 : Heap) (locs1 : List Loc), sP D dA h1 H1 → H1.size = H.size → va_S A H0 H1 locs1 → W p l e R s m args below meth c H1 locs1 cells slots Q (F0 m (pc + 3) ls rest)) : W p l e R s m args below meth c H locs cells slots Q (F0 m pc ls (v :: .ref a :: rest)) := by
  unfold pfOk at hok
  rw [hq, hy] at hok
  simp only [Bool.and_eq_true, Bool.or_eq_true, decide_eq_true_eq, Bool.not_eq_true'] at hok
  obtain ⟨⟨⟨⟨hc10, hk⟩, hn⟩, hfit⟩, hfin⟩ := hok
  unfold pf at hv
  split at hv
  · rename_i c' fs hc
    split at hv
    · rename_i e1
      obtain ⟨e1, hl⟩ := e1
      subst e1
      cases hv
      obtain ⟨⟨r', h1, cell, q1, q2, q3, q4⟩, -⟩ := (hP a _ hc).resolve_right (fun z => absurd z.1 (Nat.not_lt.mpr (hTh a haA)))
      have hr : r' = q := Option.some.inj (h1.symm.trans hq)
      subst hr
      obtain ⟨hfc, kC, hkC, hkind⟩ := (hK.1 _ _ hq).1.at (by omega)
      have hS9 : ∀ k, k < r'.2.2 → SlotIs s (r'.2.1 k).1 (r'.2.1 k).2.1 (r'.2.1 k).2.2.1 (D.2 c' k) := fun k hk => by
        obtain ⟨cf, kf, fi, f, hi, hsl, -⟩ := (hK.1 _ _ hq).2 k hk
        exact ⟨cf, kf, fi, f, hi, hsl⟩
      have hap : ∀ x z, x < r'.2.2 → z < r'.2.2 → x ≠ z → (D.2 c') x ≠ (D.2 c') z := by
        intro x z hx hz hne
        obtain ⟨_, _, _, fa, hia, ea⟩ := hS9 x hx
        obtain ⟨_, _, _, fb, hib, eb⟩ := hS9 z hz
        rw [← ea, ← eb]
        refine u_apart (u_lays hts hin hx) (u_lays hts hin hz) hia hib ?_
        rw [(State.fieldFound?_type hia (hty x hx)).1, (State.fieldFound?_type hib (hty z hz)).1]
        exact hnm x hx z hz hne
      obtain ⟨cf, kf, fi, f, hi, hsl⟩ := hS9 k hk
      have hlay := hts _ (hin _ (u_in_lay hk))
      unfold u_lay at hlay
      have hst := (u_facts hfc hkC (u_lays hts hin hk) hi).1
      rcases hfin with hfin | ⟨hin2, hdecl⟩
      · rw [if_neg (by rw [hfin]; decide)] at hlay
        have h6 := u_store hfc hkC hkind hlay hi (hty k hk) hn hfit
        refine W.putK hexec hb (f := f) ⟨hown, hlink, ⟨_, _, _, hi⟩, hst⟩ (by rw [q2]; exact h6) q1 q3 (by rw [hsl]; exact k2_hasslot (q4 k hk)) rfl rfl hdg fun H' e1 e2 e3 => ?_
        rw [hsl] at e1 ⊢
        exact kk H' _ (hP.set ⟨_, hq, t_OB.to (V := updV (vp_V fs) k v) ⟨_, e1, q2, q3, t_set q4 hap hk v⟩ (fun j _ => vp_updV_set hl v j)⟩ (fun t x e => nomatch e) e3) e2 (hS.put e2 e3 haA)
      · by_cases hfn : (r'.2.1 k).2.2.2 = true
        · rw [if_pos hfn] at hlay
          have hcf : m.cls = cf := by
            obtain ⟨_, _, c', _, _, _, -, -, hf', -, -, -, hown2, -⟩ := Cond.laysFinal_spec hlay
            have e1 : c' = cf := by have := hi.symm.trans hf'; simp at this; exact this.1.symm
            rw [hdecl] at hown2
            rw [← e1]; exact Option.some.inj (hown.symm.trans hown2)
          have h6 := u_fits hfc hkC hkind (Or.inr hlay) hi (hty k hk) hn hfit
          refine W.putFinK hexec hb hown hlink hi hst hcf (hmn.trans hin2) (by rw [q2]; exact h6) q1 q3 (by rw [hsl]; exact k2_hasslot (q4 k hk)) rfl rfl hdg fun H' e1 e2 e3 => ?_
          rw [hsl] at e1 ⊢
          exact kk H' _ (hP.set ⟨_, hq, t_OB.to (V := updV (vp_V fs) k v) ⟨_, e1, q2, q3, t_set q4 hap hk v⟩ (fun j _ => vp_updV_set hl v j)⟩ (fun t x e => nomatch e) e3) e2 (hS.put e2 e3 haA)
        · rw [if_neg hfn] at hlay
          have h6 := u_store hfc hkC hkind hlay hi (hty k hk) hn hfit
          refine W.putK hexec hb (f := f) ⟨hown, hlink, ⟨_, _, _, hi⟩, hst⟩ (by rw [q2]; exact h6) q1 q3 (by rw [hsl]; exact k2_hasslot (q4 k hk)) rfl rfl hdg fun H' e1 e2 e3 => ?_
          rw [hsl] at e1 ⊢
          exact kk H' _ (hP.set ⟨_, hq, t_OB.to (V := updV (vp_V fs) k v) ⟨_, e1, q2, q3, t_set q4 hap hk v⟩ (fun j _ => vp_updV_set hl v j)⟩ (fun t x e => nomatch e) e3) e2 (hS.put e2 e3 haA)
    · cases hv
  · cases hv
theorem snd_in {i : Int32} {n : Nat} {cA : ClassId} {z : Nat → Value} (hi : ¬ (i < 0 ∨ n ≤ i.toNatClampNeg)) : ¬ (i < 0 ∨ (arrV cA n z).slots.size ≤ i.toNatClampNeg) ∧ (arrV cA n z).slots[i.toNatClampNeg]? = some (z i.toNatClampNeg) := by
  refine ⟨by rw [arrV_size]; exact hi, ?_⟩
  rw [arrV_read _ _ (Nat.not_le.mp fun q => hi (Or.inr q))]
/-- numbers of 32 bits, read -/
theorem snd_aldI {ty : FieldType} {i : Int32} {v : Value} (hK : sK D dA s) (hP : sP D dA h H) (hv : aldI ty h a i = some v) : ∃ cell : Cell, H[a]? = some cell ∧ s.isArrayOf cell ty ∧ cell.vm ≠ .unknown ∧ ¬ (i < 0 ∨ cell.slots.size ≤ i.toNatClampNeg) ∧ cell.slots[i.toNatClampNeg]? = some v := by
  unfold aldI at hv
  split at hv
  · rename_i t n f hc
    split at hv
    · rename_i e1
      subst e1
      split at hv
      · cases hv
      · rename_i hi
        cases hv
        obtain ⟨g1, g2⟩ := snd_in (cA := dA.1 t) (z := fun j => .int (f j)) hi
        rcases hP a _ hc with ⟨h1, h2⟩ | ⟨-, cell, c1, c2, c3, c4, c5⟩
        · have ht := h2 _ _ rfl
          exact ⟨_, h1, (hK.2.1 _ ht).1 n (fun j => .int (f j)), (fun q => by cases q), g1, g2⟩
        · exact ⟨cell, c1, ⟨c2, (hK.2.2 _ _ c4 n (fun j => .int (f j))).2⟩, c3, by rw [c5]; exact g1, by rw [c5]; exact g2⟩
    · cases hv
  · cases hv
theorem snd_aldL {i : Int32} {v : Value} (hK : sK D dA s) (hP : sP D dA h H) (hv : aldL h a i = some v) : ∃ cell : Cell, H[a]? = some cell ∧ s.isArrayOf cell .long ∧ cell.vm ≠ .unknown ∧ ¬ (i < 0 ∨ cell.slots.size ≤ i.toNatClampNeg) ∧ cell.slots[i.toNatClampNeg]? = some v := by
  unfold aldL at hv
  split at hv
  · rename_i t n f hc
    split at hv
    · rename_i e1
      subst e1
      split at hv
      · cases hv
      · rename_i hi
        cases hv
        obtain ⟨g1, g2⟩ := snd_in (cA := dA.1 .long) (z := fun j => .long (f j)) hi
        rcases hP a _ hc with ⟨h1, h2⟩ | ⟨-, cell, c1, c2, c3, c4, c5⟩
        · have ht := h2 _ _ rfl
          exact ⟨_, h1, (hK.2.1 _ ht).1 n (fun j => .long (f j)), (fun q => by cases q), g1, g2⟩
        · exact ⟨cell, c1, ⟨c2, (hK.2.2 _ _ c4 n (fun j => .long (f j))).2⟩, c3, by rw [c5]; exact g1, by rw [c5]; exact g2⟩
    · cases hv
  · cases hv
theorem snd_aldD {i : Int32} {v : Value} (hK : sK D dA s) (hP : sP D dA h H) (hv : aldD h a i = some v) : ∃ cell : Cell, H[a]? = some cell ∧ s.isArrayOf cell .double ∧ cell.vm ≠ .unknown ∧ ¬ (i < 0 ∨ cell.slots.size ≤ i.toNatClampNeg) ∧ cell.slots[i.toNatClampNeg]? = some v := by
  unfold aldD at hv
  split at hv
  · rename_i t n f hc
    split at hv
    · rename_i e1
      subst e1
      split at hv
      · cases hv
      · rename_i hi
        cases hv
        obtain ⟨g1, g2⟩ := snd_in (cA := dA.1 .double) (z := fun j => .double (f j)) hi
        rcases hP a _ hc with ⟨h1, h2⟩ | ⟨-, cell, c1, c2, c3, c4, c5⟩
        · have ht := h2 _ _ rfl
          exact ⟨_, h1, (hK.2.1 _ ht).1 n (fun j => .double (f j)), (fun q => by cases q), g1, g2⟩
        · exact ⟨cell, c1, ⟨c2, (hK.2.2 _ _ c4 n (fun j => .double (f j))).2⟩, c3, by rw [c5]; exact g1, by rw [c5]; exact g2⟩
    · cases hv
  · cases hv
theorem snd_aldR (hexec : p.tables.exec = Jvm.exec) (hb : c.code = cc) {i : Int32} {v : Value} (hK : sK D dA s) (hP : sP D dA h H) (hv : aldR h a i = some v) (hdg : decode cc pc = .ok (.aaload, 1))
    (kk : W p l e R s m args below meth c H locs cells slots Q (F0 m (pc + 1) ls (v :: rest))) : W p l e R s m args below meth c H locs cells slots Q (F0 m pc ls (.int i :: .ref a :: rest)) := by
  unfold aldR at hv
  split at hv
  · rename_i t n f hc
    split at hv
    · cases hv
    · rename_i hi
      cases hv
      obtain ⟨g1, g2⟩ := snd_in (cA := dA.1 (.object t)) (z := fun j => va_rf (f j)) hi
      rcases hP a _ hc with ⟨h1, h2⟩ | ⟨-, cell, c1, c2, c3, c4, c5⟩
      · have ht := h2 _ _ rfl
        exact W.aald (v := va_rf (f i.toNatClampNeg)) (ty := .object t) hexec hb h1 ((hK.2.1 _ ht).1 n (fun j => va_rf (f j))) rfl (fun q => by cases q) g1 g2 rfl rfl hdg kk
      · exact W.aald (v := va_rf (f i.toNatClampNeg)) (ty := .object t) hexec hb c1 ⟨c2, (hK.2.2 _ _ c4 n (fun j => va_rf (f j))).2⟩ rfl c3 (by rw [c5]; exact g1) (by rw [c5]; exact g2) rfl rfl hdg kk
  · cases hv
theorem snd_alen (hexec : p.tables.exec = Jvm.exec) (hb : c.code = cc) {n : Int32} (hK : sK D dA s) (hP : sP D dA h H) (hv : alen h a = some n) (hdg : decode cc pc = .ok (.arraylength, 1))
    (kk : W p l e R s m args below meth c H locs cells slots Q (F0 m (pc + 1) ls (.int n :: rest))) : W p l e R s m args below meth c H locs cells slots Q (F0 m pc ls (.ref a :: rest)) := by
  unfold alen at hv
  split at hv
  · rename_i t x hc
    cases hv
    rcases hP a _ hc with ⟨h1, h2⟩ | ⟨-, cell, c1, c2, c3, c4, c5⟩
    · have ht := h2 _ _ rfl
      have ha := (hK.2.1 t ht).1
      obtain ⟨nn, x⟩ := x
      rcases x with f | f | f | f | f
      · exact W.alen (n := Int32.ofNat nn) hexec hb h1 (ha nn (fun j => .int (f j))) (by show (arrV _ _ _).slots.size.toInt32 = _; rw [arrV_size]) rfl rfl hdg kk
      · exact W.alen (n := Int32.ofNat nn) hexec hb h1 (ha nn (fun j => .long (f j))) (by show (arrV _ _ _).slots.size.toInt32 = _; rw [arrV_size]) rfl rfl hdg kk
      · exact W.alen (n := Int32.ofNat nn) hexec hb h1 (ha nn (fun j => .float (f j))) (by show (arrV _ _ _).slots.size.toInt32 = _; rw [arrV_size]) rfl rfl hdg kk
      · exact W.alen (n := Int32.ofNat nn) hexec hb h1 (ha nn (fun j => .double (f j))) (by show (arrV _ _ _).slots.size.toInt32 = _; rw [arrV_size]) rfl rfl hdg kk
      · exact W.alen (n := Int32.ofNat nn) hexec hb h1 (ha nn (fun j => va_rf (f j))) (by show (arrV _ _ _).slots.size.toInt32 = _; rw [arrV_size]) rfl rfl hdg kk
    · obtain ⟨nn, x⟩ := x
      have hsz : cell.slots.size = nn := by
        rw [c5]
        rcases x with f | f | f | f | f <;> exact arrV_size _ _ _
      exact W.alen (n := Int32.ofNat nn) hexec hb c1 ⟨c2, (hK.2.2 _ _ c4 nn (fun _ => .null)).2⟩ (by rw [hsz]) rfl rfl hdg kk
  · cases hv
/-- numbers of 32 bits, written -/
theorem snd_astI {ty : FieldType} {i x : Int32} {h1 : sH} (hK : sK D dA s) (hP : sP D dA h H) (hS : va_S A H0 H locs) (haA : A a) (hTh : ∀ q, A q → dA.2.2 ≤ q) (hv : astI ty h a i x = some h1) : ∃ cell : Cell, H[a]? = some cell ∧ s.isArrayOf cell ty ∧ cell.vm ≠ .unknown ∧ ¬ (i < 0 ∨ cell.slots.size ≤ i.toNatClampNeg) ∧ ∀ H1 : Heap, H1[a]? = some (cell.setSlot i.toNatClampNeg (.int (sNar ty x))) → H1.size = H.size → (∀ q, q ≠ a → H1[q]? = H[q]?) → sP D dA h1 H1 ∧ va_S A H0 H1 (locs ++ [⟨a, i.toNatClampNeg⟩]) := by
  unfold astI at hv
  split at hv
  · rename_i t n f hc
    split at hv
    · rename_i e1
      subst e1
      split at hv
      · cases hv
      · rename_i hi
        cases hv
        obtain ⟨g1, g2⟩ := (hP a _ hc).resolve_right (fun z => absurd z.1 (Nat.not_lt.mpr (hTh a haA)))
        have ht := g2 _ _ rfl
        obtain ⟨k1, k2⟩ := snd_in (cA := dA.1 t) (z := fun j => .int (f j)) hi
        refine ⟨_, g1, (hK.2.1 t ht).1 n (fun j => .int (f j)), (fun q => by cases q), k1, fun H1 e z oq => ⟨hP.set ?_ (fun t' x' e' => by cases e'; exact ht) oq, hS.put z oq haA⟩⟩
        show H1[a]? = some (vp_cell _ _)
        rw [e]
        rw [vp_cell_i, vp_cell_i, arrV_store]
        congr 2
        funext q
        by_cases hq : q = i.toNatClampNeg
        · subst hq
          simp [updV, upd]
        · simp [updV, upd, hq]
    · cases hv
  · cases hv
theorem snd_astL {i : Int32} {x : Int64} {h1 : sH} (hK : sK D dA s) (hP : sP D dA h H) (hS : va_S A H0 H locs) (haA : A a) (hTh : ∀ q, A q → dA.2.2 ≤ q) (hv : astL h a i x = some h1) : ∃ cell : Cell, H[a]? = some cell ∧ s.isArrayOf cell .long ∧ cell.vm ≠ .unknown ∧ ¬ (i < 0 ∨ cell.slots.size ≤ i.toNatClampNeg) ∧ ∀ H1 : Heap, H1[a]? = some (cell.setSlot i.toNatClampNeg (.long x)) → H1.size = H.size → (∀ q, q ≠ a → H1[q]? = H[q]?) → sP D dA h1 H1 ∧ va_S A H0 H1 (locs ++ [⟨a, i.toNatClampNeg⟩]) := by
  unfold astL at hv
  split at hv
  · rename_i t n f hc
    split at hv
    · rename_i e1
      subst e1
      split at hv
      · cases hv
      · rename_i hi
        cases hv
        obtain ⟨g1, g2⟩ := (hP a _ hc).resolve_right (fun z => absurd z.1 (Nat.not_lt.mpr (hTh a haA)))
        have ht := g2 _ _ rfl
        obtain ⟨k1, k2⟩ := snd_in (cA := dA.1 .long) (z := fun j => .long (f j)) hi
        refine ⟨_, g1, (hK.2.1 _ ht).1 n (fun j => .long (f j)), (fun q => by cases q), k1, fun H1 e z oq => ⟨hP.set ?_ (fun t' x' e' => by cases e'; exact ht) oq, hS.put z oq haA⟩⟩
        show H1[a]? = some (vp_cell _ _)
        rw [e]
        show some ((arrV (dA.1 .long) n (fun j => .long (f j))).setSlot _ _) = some (arrV (dA.1 .long) n (fun j => .long (vp_updL f i.toNatClampNeg x j)))
        rw [arrV_store]
        congr 2
        funext q
        by_cases hq : q = i.toNatClampNeg
        · subst hq
          simp [updV, vp_updL]
        · simp [updV, vp_updL, hq]
    · cases hv
  · cases hv
theorem snd_astD {i : Int32} {x : UInt64} {h1 : sH} (hK : sK D dA s) (hP : sP D dA h H) (hS : va_S A H0 H locs) (haA : A a) (hTh : ∀ q, A q → dA.2.2 ≤ q) (hv : astD h a i x = some h1) : ∃ cell : Cell, H[a]? = some cell ∧ s.isArrayOf cell .double ∧ cell.vm ≠ .unknown ∧ ¬ (i < 0 ∨ cell.slots.size ≤ i.toNatClampNeg) ∧ ∀ H1 : Heap, H1[a]? = some (cell.setSlot i.toNatClampNeg (.double x)) → H1.size = H.size → (∀ q, q ≠ a → H1[q]? = H[q]?) → sP D dA h1 H1 ∧ va_S A H0 H1 (locs ++ [⟨a, i.toNatClampNeg⟩]) := by
  unfold astD at hv
  split at hv
  · rename_i t n f hc
    split at hv
    · rename_i e1
      subst e1
      split at hv
      · cases hv
      · rename_i hi
        cases hv
        obtain ⟨g1, g2⟩ := (hP a _ hc).resolve_right (fun z => absurd z.1 (Nat.not_lt.mpr (hTh a haA)))
        have ht := g2 _ _ rfl
        obtain ⟨k1, k2⟩ := snd_in (cA := dA.1 .double) (z := fun j => .double (f j)) hi
        refine ⟨_, g1, (hK.2.1 _ ht).1 n (fun j => .double (f j)), (fun q => by cases q), k1, fun H1 e z oq => ⟨hP.set ?_ (fun t' x' e' => by cases e'; exact ht) oq, hS.put z oq haA⟩⟩
        show H1[a]? = some (vp_cell _ _)
        rw [e]
        show some ((arrV (dA.1 .double) n (fun j => .double (f j))).setSlot _ _) = some (arrV (dA.1 .double) n (fun j => .double (vf_upd f i.toNatClampNeg x j)))
        rw [arrV_store]
        congr 2
        funext q
        by_cases hq : q = i.toNatClampNeg
        · subst hq
          simp [updV, vf_upd]
        · simp [updV, vf_upd, hq]
    · cases hv
  · cases hv
theorem snd_astR (hexec : p.tables.exec = Jvm.exec) (hb : c.code = cc) {i : Int32} {v : Nat} {h1 : sH} (hK : sK D dA s) (hP : sP D dA h H) (hS : va_S A H0 H locs) (haA : A a) (hTh : ∀ q, A q → dA.2.2 ≤ q) (hv : astR h a i v = some h1) (hdg : decode cc pc = .ok (.aastore, 1))
    (kk : ∀ (H1 : Heap) (locs1 : List Loc), sP D dA h1 H1 → H1.size = H.size → va_S A H0 H1 locs1 → W p l e R s m args below meth c H1 locs1 cells slots Q (F0 m (pc + 1) ls rest)) : W p l e R s m args below meth c H locs cells slots Q (F0 m pc ls (.ref v :: .int i :: .ref a :: rest)) := by
  unfold astR at hv
  split at hv
  · rename_i t n f ci vs hc hcv
    split at hv
    · rename_i q hq
      split at hv
      · rename_i e1
        split at hv
        · cases hv
        · rename_i hi
          cases hv
          subst e1
          obtain ⟨g1, g2⟩ := (hP a _ hc).resolve_right (fun z => absurd z.1 (Nat.not_lt.mpr (hTh a haA)))
          have ht := g2 _ _ rfl
          obtain ⟨cellV, v1, v2, v3⟩ : ∃ cellV : Cell, H[v]? = some cellV ∧ cellV.cls = D.1 ci ∧ ∀ k, cellV.vm ≠ .statics k := by
            rcases hP v _ hcv with ⟨⟨r', hr', cellV, v1, v2, v3, -⟩, -⟩ | ⟨-, cellV, v1, v3, -, r', hr', v2, -⟩
            · exact ⟨cellV, v1, v2, fun k h => by rw [v3] at h; cases h⟩
            · exact ⟨cellV, v1, v2, v3⟩
          have hlt : i.toNatClampNeg < n := Nat.not_le.mp fun q => hi (Or.inr q)
          have h0 : ¬ i < 0 := fun q => hi (Or.inl q)
          have hcls := (hK.1 ci q hq).1.at (aTy_lt hq ht)
          obtain ⟨kA, comp, k1, k2, k3, -⟩ := (hK.2.1 _ ht).2
          have hcomp : comp = D.1 ci := Option.some.inj (k3.symm.trans hcls.1)
          subst hcomp
          obtain ⟨kC, hkC, -⟩ := hcls.2
          refine W.aast hexec hb g1 (fun q h => by cases h) (fun h => by cases h) k1 k2 rfl hkC ⟨h0, by show _ < (arrV _ _ _).slots.size; rw [arrV_size]; exact hlt⟩ v1 v3 (by rw [v2]; exact hkC) (by rw [v2]; exact va_assign hcls) rfl rfl hdg fun H1 e z oq => ?_
          refine kk H1 _ (hP.set ?_ (fun t' x' e' => by cases e'; exact ht) oq) z (hS.put z oq haA)
          show H1[a]? = some (vp_cell _ _)
          rw [e]
          rw [vp_cell_q, vp_cell_q, arrV_store]
          congr 2
          funext q
          by_cases hq : q = i.toNatClampNeg
          · subst hq
            simp [updV, va_up, va_rf]
          · simp [updV, va_up, hq]
      · cases hv
    · cases hv
  · cases hv
end SND
