/-! the calls of the evaluator -/
theorem tbx_sysI : Cond.initialized "java/lang/System" ∈ TB := List.mem_filter.mpr ⟨List.mem_of_getElem? (i := 99) (by decide +kernel), by decide +kernel⟩
theorem tbx_sysS : Cond.static arraycopyName ∈ TB := List.mem_filter.mpr ⟨List.mem_of_getElem? (i := 483) (by decide +kernel), by decide +kernel⟩
theorem tbx_sysN : Cond.native arraycopyName ∈ TB := List.mem_filter.mpr ⟨List.mem_of_getElem? (i := 484) (by decide +kernel), by decide +kernel⟩
section ACP
variable {p : Program} {l : Launch} {e : Env} {R : Room} {s : State} {m : MethodId} {args : Array Value} {below : List Frame} {meth : Method} {c : Code} {H : Heap} {locs : List Loc} {cells slots : Nat} {Q : State → Prop}
variable {cc : ByteArray} {pc : Nat} {ls : Array Slot} {rest : List Value} {D : va_G} {dA : sDA} {A : Nat → Prop} {H0 : Heap} {h : sH} {a : Nat}
theorem snd_acpy (hexec : p.tables.exec = Jvm.exec) (hb : c.code = cc) (hml : c.maxLocals = ls.size) {own : String} {index : Nat} (hown : s.vm.findClass own = some m.cls) (hlink : (Cond.methodLink own index arraycopyName).before args s = true) (hnat : (Cond.native arraycopyName).before args s = true) (hstat : (Cond.static arraycopyName).before args s = true) (hini : (Cond.initialized "java/lang/System").before args s = true)
    (hK : sK D dA s) (hP : sP D dA h H) (hS : va_S A H0 H locs) (haA : A a) (hTh : ∀ q, A q → dA.2.2 ≤ q) {a0 : Nat} {sp dp n : Int32} {h1 : sH} (hv : acpy h a0 sp a dp n = some h1)
    (hframes : 1 ≤ R.frames) (hlocals : (rest.map fun v => v.category).sum + (nativeFrameWords "java/lang/System" "arraycopy" 5 + 11) ≤ R.locals) (hdg : decode cc pc = .ok (.invokestatic index, 3))
    (kk : ∀ (H1 : Heap) (locs1 : List Loc), sP D dA h1 H1 → H1.size = H.size → va_S A H0 H1 locs1 → W p l e R s m args below meth c H1 locs1 cells slots Q (F0 m (pc + 3) ls rest)) : W p l e R s m args below meth c H locs cells slots Q (F0 m pc ls (.int n :: .int dp :: .ref a :: .int sp :: .ref a0 :: rest)) := by
  have nn : ∀ z : Int32, ¬ z < 0 → z.toInt = (z.toNatClampNeg : Int) := by
    intro z hz
    have hz0 : (0 : Int) ≤ z.toInt := by
      have := Int32.not_lt.mp hz
      simpa using Int32.le_iff_toInt_le.mp this
    show z.toInt = ((z.toInt.toNat : Nat) : Int)
    omega
  unfold acpy at hv
  split at hv
  · rename_i t0 n0 f t1 n1 g hc0 hc1
    split at hv
    · rename_i hcond
      obtain ⟨e01, hprim, hne, h1', h2, h3, h4, h5, hfit⟩ := hcond
      cases hv
      subst e01
      intro T hT X
      obtain ⟨g1, gt1⟩ := (hP a _ hc1).resolve_right (fun z => absurd z.1 (Nat.not_lt.mpr (hTh a haA)))
      have ht := gt1 _ _ rfl
      obtain ⟨cs, gc0, v1, v2, hsl, k0, hk0, cm0, hkk0⟩ : ∃ cs : Cell, H[a0]? = some cs ∧ (∀ k, cs.vm ≠ .statics k) ∧ cs.vm ≠ .unknown ∧ cs.slots = (vp_cell (dA.1 t0) (n0, .inl f)).slots ∧ ∃ k0, s.vm.classes[cs.cls]? = some k0 ∧ ∃ comp, k0.kind = .array comp t0 := by
        rcases hP a0 _ hc0 with ⟨g0, gt0⟩ | ⟨-, cs, c1, c2, c3, c4, c5⟩
        · exact ⟨_, g0, fun _ h => (by cases h), fun h => (by cases h), rfl, ((hK.2.1 t0 ht).1 n0 (fun j => .int (f j))).2⟩
        · exact ⟨cs, c1, c2, c3, c5, (hK.2.2 _ _ c4 n0 (fun j => .int (f j))).2⟩
      have gc1 : H[a]? = some (vp_cell (dA.1 t0) (n1, .inl g)) := g1
      obtain ⟨-, k1, hk1, cm1, hkk1⟩ := (hK.2.1 t0 ht).1 n1 (fun j => .int (g j))
      have hfit' : ∀ i, i < n.toNatClampNeg → fits t0 (.int (f (sp.toNatClampNeg + i))) = true := fun i hi => List.all_eq_true.mp hfit i (List.mem_range.mpr hi)
      obtain ⟨vm', X', step⟩ := X.arraycopy hexec hown hlink hnat hstat hini (src := a0) (dst := a) (cs := cs) (cd := vp_cell (dA.1 t0) (n1, .inl g)) (srcPos := sp) (destPos := dp) (n := n) (by rw [hT]; exact gc0) (by rw [hT]; exact gc1)
        (fun k h => v1 k h) (fun _ h => by cases h) (fun h => v2 h) (fun h => by cases h) hk0 hk1 hkk0 hkk1 (by simp [hprim]) h1' h2 h3
        (by rw [nn sp h1', nn n h3, hsl]; show ¬ _ > ((arrV (dA.1 t0) n0 (fun j => .int (f j))).slots.size : Int); rw [arrV_size]; omega)
        (by rw [nn dp h2, nn n h3]; show ¬ _ > ((arrV (dA.1 t0) n1 (fun j => .int (g j))).slots.size : Int); rw [arrV_size]; omega)
        (fun vm₁ _ i hi => by
          have e : cs.slots.getD (sp.toNatClampNeg + i) .null = .int (f (sp.toNatClampNeg + i)) := by
            rw [hsl]
            show (arrV (dA.1 t0) n0 (fun j => .int (f j))).slots.getD _ _ = _
            rw [Array.getD_eq_getD_getElem?, arrV_read _ _ (by omega)]
            rfl
          refine ⟨?_, ?_⟩
          · rw [e]
            exact hfit' i hi
          · rw [e]
            exact trivial)
        (g := F0 m pc ls (.int n :: .int dp :: .ref a :: .int sp :: .ref a0 :: rest)) rfl (by rw [hml]) (rest := rest) rfl (by rw [hb]; exact hdg) hframes (by show 2 * 0 + _ + _ ≤ _; omega)
      have e0 : copied cs (vp_cell (dA.1 t0) (n1, .inl g)) sp dp n = copied (vp_cell (dA.1 t0) (n0, .inl f)) (vp_cell (dA.1 t0) (n1, .inl g)) sp dp n := by
        unfold copied Cell.stretch
        rw [hsl]
      have e1 : copied (vp_cell (dA.1 t0) (n0, .inl f)) (vp_cell (dA.1 t0) (n1, .inl g)) sp dp n = vp_cell (dA.1 t0) (n1, .inl (va_cpy f g sp.toNatClampNeg dp.toNatClampNeg n.toNatClampNeg)) := va_copied (fun z => .int z) (dA.1 t0) (dA.1 t0) f g h4
      rw [e0, e1] at X' step
      have hl : a < H.size := (Array.getElem?_eq_some_iff.mp gc1).1
      generalize hH1 : H.setIfInBounds a (vp_cell (dA.1 t0) (n1, .inl (va_cpy f g sp.toNatClampNeg dp.toNatClampNeg n.toNatClampNeg))) = H1
      have hheap : ((T.setVm vm').setCell a (vp_cell (dA.1 t0) (n1, .inl (va_cpy f g sp.toNatClampNeg dp.toNatClampNeg n.toNatClampNeg)))).heap = H1 := by rw [← hH1, ← hT]; rfl
      have ea : H1[a]? = some (vp_cell (dA.1 t0) (n1, .inl (va_cpy f g sp.toNatClampNeg dp.toNatClampNeg n.toNatClampNeg))) := by
        rw [← hH1]
        simp [Array.getElem?_setIfInBounds, hl]
      have oq : ∀ q : Nat, q ≠ a → H1[q]? = H[q]? := fun q hq => by
        rw [← hH1]
        simp [Array.getElem?_setIfInBounds, Ne.symm hq]
      have ez : H1.size = H.size := by rw [← hH1]; simp
      obtain ⟨t, a1, b1⟩ := kk H1 _ (hP.set ea (fun t x e => by cases e; exact ht) oq) ez ⟨by rw [ez]; exact hS.1, fun q g1 g2 => by
          rw [oq q (fun e => g2 (by rw [e]; exact haA))]
          exact hS.2.1 q g1 g2, fun q hq => by
          rcases List.mem_append.mp hq with h | h
          · exact hS.2.2 q h
          · obtain ⟨z, -, hz⟩ := List.mem_map.mp h
            rw [← hz]
            exact haA⟩ _ hheap X'
      exact ⟨t, step t a1, b1⟩
    · cases hv
  · cases hv
end ACP
/-- the counts behind a step -/
def xN (x : sG ⊕ sO) : Nat × Nat := match x with
  | .inl c' => (c'.2.2.2.2.1, c'.2.2.2.2.2)
  | .inr z => (z.2.2.1, z.2.2.2)
section INV
variable {p : Program} {l : Launch} {e : Env} {R : Room} {s : State} {m : MethodId} {args : Array Value} {below : List Frame} {meth : Method} {c : Code} {Q : State → Prop}
variable {E : sV} {D : va_G} {dA : sDA} {r : gM} {mc ms oN oK d : Nat} {call : Nat → List Value → sS → Option sO}
/-- what may follow a step: a point, or the method's end by an exception of its callee -/
def Nx (p : Program) (l : Launch) (e : Env) (R : Room) (s : State) (m : MethodId) (args : Array Value) (below : List Frame) (meth : Method) (c : Code) (Q : State → Prop) (E : sV) (D : va_G) (dA : sDA) (nL mc ms oN oK pc : Nat) (x : sG ⊕ sO) : Prop := match x with
  | .inl c' => c'.2.2.2.2.1 ≤ oN ∧ c'.2.2.2.2.2 ≤ oK ∧ Gd p l e R s m args below meth c Q E D dA nL mc ms oN oK c'
  | .inr o => o.2.2.1 ≤ oN ∧ o.2.2.2 ≤ oK ∧ ∀ (X : String) (H : Heap) (locs : List Loc) (lsA : Array Slot) (rest : List Value) (cells slots : Nat) (q : Addr) (ce : Cell), o.1 = .inr X → va_S (fun q => E.1 ≤ q) s.heap H locs → sP D dA o.2.1 H → H.size = o.2.2.1 → cells + (oN - o.2.2.1) = mc → slots + (oK - o.2.2.2) = ms → H[q]? = some ce → ce.vm = .none → s.vm.findClass X = some ce.cls → vx_W p l e R s m args below meth c H locs cells slots Q (F0 m pc lsA rest) q
theorem snd_ret (B : sBd p l E D dA r s m meth c) {pc : Nat} {ls : sL} {rest st0 : List Value} {σ : sS} {o : sO} {x : sG ⊕ sO} {H : Heap} {locs : List Loc} {lsA : Array Slot} {cells slots : Nat} {a : Array Value} (hst : sRet r pc ls rest (some o) = some x) (hN : Nx p l e R s m args below meth c Q E D dA r.2.2.1 mc ms oN oK pc x) (hmo : σ.2.1 ≤ o.2.2.1 ∧ σ.2.2 ≤ o.2.2.2) (hS : va_S (fun q => E.1 ≤ q) s.heap H locs) (hl : lrel r.2.2.1 ls lsA) (hz1 : cells + (oN - σ.2.1) = mc) (hz2 : slots + (oK - σ.2.2) = ms)
    (hr : vx_Run p l e R s m args below meth c H locs cells slots (o.2.2.1 - σ.2.1) (o.2.2.2 - σ.2.2) (F0 m pc lsA st0) rest (sQc E D dA o a) (sXc E D dA o) (fun q => E.1 ≤ q)) : W p l e R s m args below meth c H locs cells slots Q (F0 m pc lsA st0) := by
  obtain ⟨o1, σ1⟩ := o
  refine snd_use hr hS ?_ ?_
  · intro v H1 locs1 h1 hP1 hn1 hS1
    dsimp only at h1 hP1 hn1 hmo ⊢
    subst h1
    cases hst
    obtain ⟨n1, n2, hG⟩ := hN
    dsimp only at n1 n2
    exact hG H1 locs1 lsA _ _ hS1 hP1 hn1 hl (by dsimp only; omega) (by dsimp only; omega)
  · intro X H1 locs1 q ce h1 hP1 hn1 hS1 g1 g2 g3
    dsimp only at h1 hP1 hn1 hmo ⊢
    subst h1
    dsimp only [sRet] at hst
    split at hst
    · cases hst
      obtain ⟨n1, n2, hG⟩ := hN
      dsimp only at n1 n2 hG
      exact hG X H1 locs1 lsA rest _ _ q ce rfl hS1 hP1 hn1 (by omega) (by omega) g1 g2 g3
    · split at hst
      · cases hst
      · rename_i hp hh
        split at hst
        · rename_i k len hd
          split at hst
          · rename_i hk
            cases hst
            obtain ⟨n1, n2, hG⟩ := hN
            dsimp only at n1 n2
            obtain ⟨rfl, hk⟩ := hk
            refine snd_catch B hh g1 g2 g3 ?_
            refine lv_astore (x := q) B.1 B.2.1 hd hl.has (by rw [← hl.2.1]; exact hk) rfl (fun ls2 h2 => ?_)
            exact hG H1 locs1 ls2 _ _ hS1 hP1 hn1 (hl.of0 h2) (by dsimp only; omega) (by dsimp only; omega)
          · cases hst
        · rename_i k len hd
          split at hst
          · rename_i hk
            cases hst
            obtain ⟨n1, n2, hG⟩ := hN
            dsimp only at n1 n2
            obtain ⟨rfl, hk⟩ := hk
            refine snd_catch B hh g1 g2 g3 ?_
            refine lv_astore_n (x := q) B.1 B.2.1 hd rfl hl.has (by rw [← hl.2.1]; exact hk) rfl (fun ls2 h2 => ?_)
            exact hG H1 locs1 ls2 _ _ hS1 hP1 hn1 (hl.of0 h2) (by dsimp only; omega) (by dsimp only; omega)
          · cases hst
        · cases hst
theorem snd_ret2 {pc : Nat} {ls : sL} {rest st0 : List Value} {σ : sS} {o : sO} {x : sG ⊕ sO} {H : Heap} {locs : List Loc} {lsA : Array Slot} {cells slots : Nat} {a : Array Value} (hst : sRet2 pc ls rest (some o) = some x) (hN : Nx p l e R s m args below meth c Q E D dA r.2.2.1 mc ms oN oK pc x) (hmo : σ.2.1 ≤ o.2.2.1 ∧ σ.2.2 ≤ o.2.2.2) (hS : va_S (fun q => E.1 ≤ q) s.heap H locs) (hl : lrel r.2.2.1 ls lsA) (hz1 : cells + (oN - σ.2.1) = mc) (hz2 : slots + (oK - σ.2.2) = ms)
    (hr : va_Run p l e R s m args below meth c H locs cells slots (o.2.2.1 - σ.2.1) (o.2.2.2 - σ.2.2) (F0 m pc lsA st0) rest (sQc E D dA o a) (fun q => E.1 ≤ q)) : W p l e R s m args below meth c H locs cells slots Q (F0 m pc lsA st0) := by
  obtain ⟨o1, σ1⟩ := o
  refine snd_use2 hr hS ?_
  intro v H1 locs1 h1 hP1 hn1 hS1
  dsimp only at h1 hP1 hn1 hmo ⊢
  subst h1
  cases hst
  obtain ⟨n1, n2, hG⟩ := hN
  dsimp only at n1 n2
  exact hG H1 locs1 lsA _ _ hS1 hP1 hn1 hl (by dsimp only; omega) (by dsimp only; omega)
theorem sRet_n {pc : Nat} {ls : sL} {rest : List Value} {o : Option sO} {x : sG ⊕ sO} (h : sRet r pc ls rest o = some x) : ∃ o', o = some o' ∧ (xN x).1 = o'.2.2.1 ∧ (xN x).2 = o'.2.2.2 := by
  unfold sRet at h
  split at h
  · cases h
  · cases h
    exact ⟨_, rfl, rfl, rfl⟩
  · refine ⟨_, rfl, ?_⟩
    split at h
    · cases h
      exact ⟨rfl, rfl⟩
    · split at h
      · cases h
      · split at h
        · split at h
          · cases h
            exact ⟨rfl, rfl⟩
          · cases h
        · split at h
          · cases h
            exact ⟨rfl, rfl⟩
          · cases h
        · cases h
theorem sRet2_n {pc : Nat} {ls : sL} {rest : List Value} {o : Option sO} {x : sG ⊕ sO} (h : sRet2 pc ls rest o = some x) : ∃ v σ', o = some (.inl v, σ') ∧ x = .inl (pc + 3, ls, v.toList ++ rest, σ') := by
  unfold sRet2 at h
  split at h
  · cases h
    exact ⟨_, _, rfl, rfl⟩
  · cases h
theorem Nx_room {pc : Nat} {o' : sO} {x : sG ⊕ sO} (h : Nx p l e R s m args below meth c Q E D dA r.2.2.1 mc ms oN oK pc x) (hn : (xN x).1 = o'.2.2.1 ∧ (xN x).2 = o'.2.2.2) : o'.2.2.1 ≤ oN ∧ o'.2.2.2 ≤ oK := by
  cases x with
  | inl c' => exact ⟨by rw [← hn.1]; exact h.1, by rw [← hn.2]; exact h.2.1⟩
  | inr z => exact ⟨by rw [← hn.1]; exact h.1, by rw [← hn.2]; exact h.2.1⟩
set_option maxHeartbeats 8000000 in
theorem snd_inv (B : sBd p l E D dA r s m meth c) (hR : R.cells = mc ∧ R.slots = ms ∧ 10 * d + 11 ≤ R.frames ∧ 200 * d + 300 ≤ R.locals) (hcall : ∀ mi as σ o, call mi as σ = some o → (σ.2.1 ≤ o.2.2.1 ∧ σ.2.2 ≤ o.2.2.2) ∧ ∀ r', gMT mi = some r' → mtOK r' → sCt l E D dA d as σ o r')
    {i : Instr} {len pc : Nat} {ls : sL} {st : List Value} {σ : sS} {x : sG ⊕ sO} (hni : isInv i = true) (hdg : decode r.2.1 pc = .ok (i, len)) (hlen : sLen i len = true) (hst : stp E call r i len pc ls st σ = some x) (hN : Nx p l e R s m args below meth c Q E D dA r.2.2.1 mc ms oN oK pc x) : Gd p l e R s m args below meth c Q E D dA r.2.2.1 mc ms oN oK (pc, ls, st, σ) := by
  intro H locs lsA cells slots hS hP hn hl hz1 hz2
  have B' := B
  obtain ⟨hx, hb, hml, hown, hC, hlocks, hret, hmn, hgo, hbs, htr, hT⟩ := B
  have hts := hC.1 args
  have hK := hC.2.1
  obtain ⟨hR1, hR2, hR3, hR4⟩ := hR
  dsimp only at hP hn hl hz1 hz2 ⊢
  have hfix : CallFix p m c r.2.1 r.2.2.1 s args TB r.1.cls := ⟨hx, hb, hml, hown, hts⟩
  cases i with
  | invokevirtual i =>
    obtain rfl : len = 3 := by simpa [sLen] using hlen
    dsimp only [stp] at hst
    split at hst
    · rename_i t hk
      obtain ⟨r', hm', hok, hpar, f0, -, -, -, -, f5, -⟩ := LKm_ok hgo hk
      obtain ⟨k, fm, ci, n⟩ := t
      dsimp only at hm' hpar f0 f5 hst
      split at hst
      · rename_i hf
        obtain ⟨hw, hexc, q, hq, hqc⟩ := f0 hf
        dsimp only [sInv] at hst
        split at hst
        · cases hst
        · rename_i as rest hp
          simp only [if_true] at hst
          split at hst
          · rename_i b rest'
            split at hst
            · rename_i hc
              obtain ⟨hst1, hlenA⟩ := popN_spec _ _ _ _ hp
              subst hst1
              obtain ⟨o', ho', hno⟩ := sRet_n hst
              obtain ⟨hmo, hct⟩ := hcall _ _ _ _ ho'
              have hroom := Nx_room hN hno
              rw [ho'] at hst
              have hob : isOb σ.1 b ci = true := by
                rcases hc.2 with h | h | h
                · omega
                · omega
                · exact h
              refine snd_ret (a := (Value.ref b :: as).toArray) B' hst hN hmo hS hl hz1 hz2 ?_
              exact vx_runV (As := as) (rest := rest') (C := r'.1.cls) hfix (hct r' hm' hok) (cwV n hts (good_app hw hok.2.2.1) (mws_eq hexc) rfl rfl ⟨rfl, hok.2.1.1, hok.2.1.2, hpar⟩ ⟨by dsimp only; omega, by have := hok.2.2.2.1; dsimp only; omega⟩) (by
                obtain ⟨g1, g2⟩ := snd_pre (as := .ref b :: as) hC hbs hS hP hn
                exact ⟨g1, by rw [← hqc]; exact snd_rcv hK hP hq hob, g2⟩) rfl hlenA hl.1 rfl (lv_room hc.1) hdg ⟨by omega, by omega⟩
            · cases hst
          · cases hst
      · split at hst
        · rename_i hf
          obtain ⟨q, x9, hq, hxy, hw, hexc⟩ := f5 hf
          dsimp only [sInv] at hst
          split at hst
          · cases hst
          · rename_i as rest hp
            simp only [if_true, Bool.false_eq_true, if_false] at hst
            split at hst
            · rename_i b rest'
              split at hst
              · rename_i hc
                obtain ⟨hst1, hlenA⟩ := popN_spec _ _ _ _ hp
                subst hst1
                obtain ⟨v, σ', ho', hxx⟩ := sRet2_n hst
                obtain ⟨hmo, hct⟩ := hcall _ _ _ _ ho'
                have hroom : σ'.2.1 ≤ oN ∧ σ'.2.2 ≤ oK := by
                  rw [hxx] at hN
                  exact ⟨hN.1, hN.2.1⟩
                rw [ho'] at hst
                have hob : isOb σ.1 b ci = true := by
                  rcases hc.2 with h | h | h
                  · omega
                  · omega
                  · exact h
                dsimp only at hmo
                refine snd_ret2 (a := (Value.ref b :: as).toArray) hst hN hmo hS hl hz1 hz2 ?_
                exact va_runU (As := as) (rest := rest') (C := q.1) (owner := r'.1.cls) (x := x9) hfix (Met_of_vx (hct r' hm' hok) (fun X s t h => by cases h.1)) (va_cwU n hts (good_app hw hok.2.2.1) (mws_eq hexc) rfl rfl hxy ⟨hok.2.1.1, hok.2.1.2, by rw [hxy] at hpar; exact hpar⟩ ⟨by dsimp only; omega, by have := hok.2.2.2.1; dsimp only; omega⟩) (by
                  obtain ⟨g1, g2⟩ := snd_pre (as := .ref b :: as) hC hbs hS hP hn
                  exact ⟨g1, snd_rcv hK hP hq hob, g2⟩) rfl hlenA hl.1 rfl (lv_room hc.1) hdg ⟨by dsimp only; omega, by dsimp only; omega⟩
              · cases hst
            · cases hst
        · cases hst
    · cases hst
  | invokespecial i =>
    obtain rfl : len = 3 := by simpa [sLen] using hlen
    dsimp only [stp] at hst
    split at hst
    · rename_i k hk
      split at hst
      · rename_i b t
        split at hst
        · rename_i hc
          cases hst
          obtain ⟨n1, n2, hG⟩ := hN
          have hw := LKo_ok hgo hk
          refine W.objInit hx hb hown (hts _ hw) (hts _ ob_inst) (hts _ ob_code) rfl (by rw [hml]; exact hl.1) rfl hdg (by omega) (by show 2 * 0 + cats t + 12 ≤ _; omega) ?_
          exact hG H locs lsA cells slots hS hP hn hl hz1 hz2
        · cases hst
      · cases hst
    · split at hst
      · rename_i t hk
        obtain ⟨r', hm', hok, hpar, -, -, f2, -, f4, -, f6⟩ := LKm_ok hgo hk
        obtain ⟨k, fm, ci, n⟩ := t
        dsimp only at hm' hpar f2 f4 f6 hst
        split at hst
        · rename_i hf
          dsimp only [sInv] at hst
          split at hst
          · cases hst
          · rename_i as rest hp
            simp only [if_true, Bool.false_eq_true, if_false] at hst
            split at hst
            · rename_i b rest'
              split at hst
              · rename_i hc
                obtain ⟨hst1, hlenA⟩ := popN_spec _ _ _ _ hp
                subst hst1
                obtain ⟨v, σ', ho', hxx⟩ := sRet2_n hst
                obtain ⟨hmo, hct⟩ := hcall _ _ _ _ ho'
                have hroom : σ'.2.1 ≤ oN ∧ σ'.2.2 ≤ oK := by
                  rw [hxx] at hN
                  exact ⟨hN.1, hN.2.1⟩
                rw [ho'] at hst
                dsimp only at hmo
                refine snd_ret2 (a := (Value.ref b :: as).toArray) hst hN hmo hS hl hz1 hz2 ?_
                have hM := Met_of_vx (hct r' hm' hok) (fun X s t h => by cases h.1)
                rcases hf with hf | hf | hf
                · obtain ⟨w1, w2, w3, hy1, hrn, hexc⟩ := f2 hf
                  have hwe := mws_eq hexc
                  rw [hrn] at hwe
                  exact va_runI (As := as) (rest := rest') hfix hM (cwI n hts (mws_in hok) hwe rfl rfl (hts _ w3) (hts _ w1) (hts _ w2) hy1 ⟨hok.2.1.1, hok.2.1.2, hpar⟩ ⟨by dsimp only; omega, by have := hok.2.2.2.1; dsimp only; omega⟩) (snd_pre hC hbs hS hP hn) rfl hlenA hl.1 rfl (lv_room hc.1) hdg ⟨by dsimp only; omega, by dsimp only; omega⟩
                · obtain ⟨⟨host, w1⟩, w2, w3, hy1, hrn, hexc⟩ := f4 hf
                  have hwe := mws_eq hexc
                  rw [hrn] at hwe
                  exact va_runIN (As := as) (rest := rest') hfix hM ⟨va_cnB n hts (mws_in hok) hwe rfl rfl (hC.2.2.1 _ _ _ _ w1) (hts _ w3) ⟨hok.2.1.1, hok.2.1.2, hpar⟩ ⟨by dsimp only; omega, by have := hok.2.2.2.1; dsimp only; omega⟩, hy1, hts _ w2⟩ (snd_pre hC hbs hS hP hn) rfl hlenA hl.1 rfl (lv_room hc.1) hdg ⟨by dsimp only; omega, by dsimp only; omega⟩
                · obtain ⟨hw, hno, hexc, q, hq, hq11⟩ := f6 hf
                  have hob : isOb σ.1 b ci = true := by
                    rcases hc.2 with h | h | h
                    · omega
                    · omega
                    · exact h
                  exact va_runSU (As := as) (rest := rest') ((hK.1 ci q hq).1.at hq11) hfix hM (va_cwSU n hts (good_app hw hok.2.2.1) (mws_eq hexc) rfl rfl ⟨hno, hpar⟩ ⟨by dsimp only; omega, by have := hok.2.2.2.1; dsimp only; omega⟩) (by
                    obtain ⟨g1, g2⟩ := snd_pre (as := .ref b :: as) hC hbs hS hP hn
                    exact ⟨g1, snd_rcv hK hP hq hob, g2⟩) rfl hlenA hl.1 rfl (lv_room hc.1) hdg ⟨by dsimp only; omega, by dsimp only; omega⟩
              · cases hst
            · cases hst
        · cases hst
      · cases hst
  | invokestatic i =>
    obtain rfl : len = 3 := by simpa [sLen] using hlen
    dsimp only [stp] at hst
    split at hst
    · rename_i t hk
      obtain ⟨r', hm', hok, hpar, -, f1, -, f3, -⟩ := LKm_ok hgo hk
      obtain ⟨k, fm, ci, n⟩ := t
      dsimp only at hm' hpar f1 f3 hst
      split at hst
      · rename_i hf
        have hw := f1 hf
        dsimp only [sInv] at hst
        split at hst
        · cases hst
        · rename_i as rest hp
          simp only [Bool.false_eq_true, if_false, if_true] at hst
          split at hst
          · rename_i hc
            obtain ⟨hst1, hlenA⟩ := popN_spec _ _ _ _ hp
            subst hst1
            obtain ⟨o', ho', hno⟩ := sRet_n hst
            obtain ⟨hmo, hct⟩ := hcall _ _ _ _ ho'
            have hroom := Nx_room hN hno
            rw [ho'] at hst
            refine snd_ret (a := as.toArray) B' hst hN hmo hS hl hz1 hz2 ?_
            by_cases hexc : r'.2.2.2.2.2 = []
            · exact vx_runS (As := as) (rest := rest) hfix (hct r' hm' hok) (va_cwS n hts (good_app hw hok.2.2.1) (mws_eq hexc) rfl rfl ⟨hok.2.1.1, hok.2.1.2, hpar⟩ ⟨by dsimp only; omega, by have := hok.2.2.2.1; dsimp only; omega⟩) (snd_pre hC hbs hS hP hn) rfl hlenA hl.1 rfl (lv_room hc) hdg ⟨by omega, by omega⟩
            · exact vx_runSX (As := as) (rest := rest) hfix (hct r' hm' hok) (vx_cwSW n hts (good_app hw hok.2.2.1) (mws_eqW hexc) rfl rfl ⟨hok.2.1.1, hok.2.1.2, hpar⟩ ⟨by dsimp only; omega, by have := hok.2.2.2.1; dsimp only; omega⟩) (snd_pre hC hbs hS hP hn) rfl hlenA hl.1 rfl (lv_room hc) hdg ⟨by omega, by omega⟩
          · cases hst
      · split at hst
        · rename_i hf
          obtain ⟨⟨host, w1⟩, w2, w3, hexc⟩ := f3 hf
          dsimp only [sInv] at hst
          split at hst
          · cases hst
          · rename_i as rest hp
            simp only [Bool.false_eq_true, if_false] at hst
            split at hst
            · rename_i hc
              obtain ⟨hst1, hlenA⟩ := popN_spec _ _ _ _ hp
              subst hst1
              obtain ⟨v, σ', ho', hxx⟩ := sRet2_n hst
              obtain ⟨hmo, hct⟩ := hcall _ _ _ _ ho'
              have hroom : σ'.2.1 ≤ oN ∧ σ'.2.2 ≤ oK := by
                rw [hxx] at hN
                exact ⟨hN.1, hN.2.1⟩
              rw [ho'] at hst
              dsimp only at hmo
              refine snd_ret2 (a := as.toArray) hst hN hmo hS hl hz1 hz2 ?_
              exact va_runSN (As := as) (rest := rest) hfix (Met_of_vx (hct r' hm' hok) (fun X s t h => by cases h.1)) ⟨va_cnB n hts (mws_in hok) (mws_eq hexc) rfl rfl (hC.2.2.1 _ _ _ _ w1) (hts _ w3) ⟨hok.2.1.1, hok.2.1.2, hpar⟩ ⟨by dsimp only; omega, by have := hok.2.2.2.1; dsimp only; omega⟩, hts _ w2, trivial⟩ (snd_pre hC hbs hS hP hn) rfl hlenA hl.1 rfl (lv_room hc) hdg ⟨by dsimp only; omega, by dsimp only; omega⟩
            · cases hst
        · cases hst
    · split at hst
      · rename_i k hk
        obtain ⟨w0, hw⟩ := LKh_ok hgo hk
        split at hst
        · split at hst
          · rename_i hc
            cases hst
            obtain ⟨n1, n2, hG⟩ := hN
            dsimp only at n1 n2
            obtain ⟨w1, w2, w3⟩ : Cond.methodLink r.1.cls i Lib.Math.abs.name ∈ TB ∧ Cond.static Lib.Math.abs.name ∈ TB ∧ Cond.code Lib.Math.abs.name Lib.Math.abs.code 1 (some .int) ∈ TB := by
              rcases hw with ⟨-, q⟩ | ⟨q, -⟩ | ⟨q, -⟩
              · exact q
              · omega
              · omega
            refine va_mabs hx hb (hml.trans hl.1.symm) hown (hts _ w1) (hts _ w2) (hts _ w0) (hts _ w3) (by omega) (by show cats _ + 13 ≤ _; omega) (by omega) (by omega) hdg ?_
            exact hG H locs lsA cells slots hS hP hn hl hz1 hz2
          · cases hst
        · split at hst
          · rename_i hc
            cases hst
            obtain ⟨n1, n2, hG⟩ := hN
            dsimp only at n1 n2
            obtain ⟨w1, w2, w3⟩ : Cond.methodLink r.1.cls i Lib.Math.max.name ∈ TB ∧ Cond.static Lib.Math.max.name ∈ TB ∧ Cond.code Lib.Math.max.name Lib.Math.max.code 2 (some .int) ∈ TB := by
              rcases hw with ⟨q, -⟩ | ⟨-, q⟩ | ⟨q, -⟩
              · omega
              · exact q
              · omega
            refine va_mmax hx hb (hml.trans hl.1.symm) hown (hts _ w1) (hts _ w2) (hts _ w0) (hts _ w3) (by omega) (by show cats _ + 13 ≤ _; omega) (by omega) (by omega) hdg ?_
            exact hG H locs lsA cells slots hS hP hn hl hz1 hz2
          · cases hst
        · split at hst
          · rename_i hc
            cases hst
            obtain ⟨n1, n2, hG⟩ := hN
            dsimp only at n1 n2
            obtain ⟨w1, w2, w3⟩ : Cond.methodLink r.1.cls i Lib.Math.min.name ∈ TB ∧ Cond.static Lib.Math.min.name ∈ TB ∧ Cond.code Lib.Math.min.name Lib.Math.min.code 2 (some .int) ∈ TB := by
              rcases hw with ⟨q, -⟩ | ⟨q, -⟩ | ⟨-, q⟩
              · omega
              · omega
              · exact q
            refine va_mmin hx hb (hml.trans hl.1.symm) hown (hts _ w1) (hts _ w2) (hts _ w0) (hts _ w3) (by omega) (by show cats _ + 13 ≤ _; omega) (by omega) (by omega) hdg ?_
            exact hG H locs lsA cells slots hS hP hn hl hz1 hz2
          · cases hst
        · cases hst
      · split at hst
        · rename_i hk
          split at hst
          · rename_i hc
            obtain ⟨ha, h1, hh1, rfl⟩ := uph_inv hst
            obtain ⟨n1, n2, hG⟩ := hN
            dsimp only at n1 n2 hG
            have hw := LKy_ok hgo hk
            refine snd_acpy hx hb (hml.trans hl.1.symm) hown (hts _ hw) (hts _ tbx_sysN) (hts _ tbx_sysS) (hts _ tbx_sysI) hK hP hS ha (fun q hq => by rw [hC.2.2.2.2.2.2.2.2.2.2.2.2]; exact hq) hh1 (by omega) (by
              have : nativeFrameWords "java/lang/System" "arraycopy" 5 ≤ 50 := by decide +kernel
              show cats _ + _ ≤ _
              omega) hdg (fun H1 locs1 hP1 hz hS1 => ?_)
            exact hG H1 locs1 lsA cells slots hS1 hP1 (by rw [hz]; exact hn) hl hz1 hz2
          · cases hst
        · cases hst
  | _ => cases hni
end INV
