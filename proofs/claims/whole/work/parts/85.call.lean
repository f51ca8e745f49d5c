/-! calls -/
def sPc (E : sV) (D : va_G) (dA : sDA) (as : List Value) (σ : sS) : Array Value → State → Prop := va_Pc as (fun U => sCx E D dA U ∧ sP D dA σ.1 U.heap ∧ U.heap.size = σ.2.1 ∧ E.1 ≤ σ.2.1)
def sQc (E : sV) (D : va_G) (dA : sDA) (o : sO) : Array Value → State → Outcome → State → Prop := fun _ st oc t => ∃ v, o.1 = .inl v ∧ oc = .returned v ∧ sP D dA o.2.1 t.heap ∧ t.heap.size = o.2.2.1 ∧ va_F (fun q => E.1 ≤ q) st t
def sXc (E : sV) (D : va_G) (dA : sDA) (o : sO) : String → State → State → Prop := fun X st t => o.1 = .inr X ∧ sP D dA o.2.1 t.heap ∧ t.heap.size = o.2.2.1 ∧ va_F (fun q => E.1 ≤ q) st t
def sCt (l : Launch) (E : sV) (D : va_G) (dA : sDA) (d : Nat) (as : List Value) (σ : sS) (o : sO) (r : gM) : Prop :=
  vx_Met l r.1 (mws r) { frames := 10 * d + 10, cells := o.2.2.1 - σ.2.1, slots := o.2.2.2 - σ.2.2, locals := 200 * d + 200 } (sPc E D dA as σ) (sQc E D dA o) (sXc E D dA o) (o.2.2.1 - σ.2.1) (o.2.2.2 - σ.2.2) (fun q => E.1 ≤ q)
theorem Met_of_vx {l : Launch} {y : MethodName} {ws : List Cond} {rm : Room} {Pc : Array Value → State → Prop} {Qc : Array Value → State → Outcome → State → Prop} {XC : String → State → State → Prop} {mc ms : Nat} {free : Addr → Prop} (h : vx_Met l y ws rm Pc Qc XC mc ms free) (hx : ∀ X s t, ¬ XC X s t) : Met l y ws rm Pc Qc mc ms free := by
  intro p e h1 h2 h3 s m args below h4 h5 h6 h7
  obtain ⟨n, o, a1, a2, a3, a4⟩ := h p e h1 h2 h3 s m args below h4 h5 h6 h7
  refine ⟨n, o, a1, a2, a3, ?_⟩
  rcases a4 with a4 | ⟨q, -, X, ce, L, hX, -⟩
  · exact a4
  · exact absurd hX (hx _ _ _)
theorem sPc_blind {E : sV} {D : va_G} {dA : sDA} {as : List Value} {σ : sS} : FrameBlind (sPc E D dA as σ) := by
  intro a U g mk q
  obtain ⟨q0, q1, q2, q3, q4⟩ := q
  exact ⟨q0, q1.mv (U := U.calling g mk a) (State.WarmedH.refl U) (fun _ _ _ => rfl), q2, q3, q4⟩
theorem mws_in {r : gM} (h : mtOK r) : GoodIn TB (mws r) := fun w hw => ⟨h.2.2.1 w hw, good_of_word (TB_good (h.2.2.1 w hw))⟩
theorem good_app {a b : List Cond} (ha : ∀ w ∈ a, w ∈ TB) (hb : ∀ w ∈ b, w ∈ TB) : GoodIn TB (a ++ b) := fun w hw => by
  have h : w ∈ TB := (List.mem_append.mp hw).elim (ha w) (hb w)
  exact ⟨h, good_of_word (TB_good h)⟩
theorem mws_eq {r : gM} (h : r.2.2.2.2.2 = []) : mws r = Cond.code r.1 r.2.1 r.2.2.1 r.2.2.2.1 :: [] := by
  unfold mws
  rw [if_pos h]
theorem mws_eqW {r : gM} (h : ¬ r.2.2.2.2.2 = []) : mws r = Cond.codeWith r.1 r.2.1 r.2.2.1 r.2.2.2.1 (mhh r) :: [] := by
  unfold mws
  rw [if_neg h]
theorem isOb_inv {h : sH} {b c : Nat} (q : isOb h b c = true) : ∃ fs, h b = some (.inr (c, fs)) := by
  unfold isOb at q
  split at q
  · rename_i c' fs hb
    have := of_decide_eq_true q
    subst this
    exact ⟨fs, hb⟩
  · cases q
section CALLS
variable {p : Program} {l : Launch} {e : Env} {R : Room} {s : State} {m : MethodId} {args : Array Value} {below : List Frame} {meth : Method} {c : Code} {Q : State → Prop} {H : Heap} {locs : List Loc} {cells slots : Nat}
variable {E : sV} {D : va_G} {dA : sDA} {r : gM} {mc ms oN oK : Nat} {call : Nat → List Value → sS → Option sO} {pc : Nat} {lsA : Array Slot} {st0 rest : List Value} {a : Array Value} {o : sO} {mc1 ms1 : Nat}
theorem snd_use (hr : vx_Run p l e R s m args below meth c H locs cells slots mc1 ms1 (F0 m pc lsA st0) rest (sQc E D dA o a) (sXc E D dA o) (fun q => E.1 ≤ q)) (hS : va_S (fun q => E.1 ≤ q) s.heap H locs)
    (kk : ∀ (v : Option Value) (H1 : Heap) (locs1 : List Loc), o.1 = .inl v → sP D dA o.2.1 H1 → H1.size = o.2.2.1 → va_S (fun q => E.1 ≤ q) s.heap H1 locs1 → W p l e R s m args below meth c H1 locs1 (cells + mc1) (slots + ms1) Q (F0 m (pc + 3) lsA (v.toList ++ rest)))
    (kx : ∀ (X : String) (H1 : Heap) (locs1 : List Loc) (q : Addr) (ce : Cell), o.1 = .inr X → sP D dA o.2.1 H1 → H1.size = o.2.2.1 → va_S (fun q => E.1 ≤ q) s.heap H1 locs1 → H1[q]? = some ce → ce.vm = .none → s.vm.findClass X = some ce.cls → vx_W p l e R s m args below meth c H1 locs1 (cells + mc1) (slots + ms1) Q (F0 m pc lsA rest) q) : W p l e R s m args below meth c H locs cells slots Q (F0 m pc lsA st0) := by
  intro T hT X
  rcases hr T hT X with ⟨v, st₀, t, T', L, h0, X', hL, e1, e2, ⟨v', hv1, hv2, hp, hz, hF⟩, st⟩ | ⟨q, st₀, t, T', L, X9, ce, h0, X', hL, e1, e2, ⟨hv1, hp, hz, hF⟩, hce, hcv, hcl, st⟩
  · cases hv2
    obtain ⟨k1, k2, k3⟩ := vx_keep h0 e1 hS (fun _ _ h => h) (fun _ h => h) hL hF
    obtain ⟨t2, a1, b1⟩ := kk v T'.heap (locs ++ L) hv1 (by rw [e1]; exact hp) (by rw [e1]; exact hz) k3 T' rfl X'
    exact ⟨t2, st t2 a1, b1⟩
  · obtain ⟨k1, k2, k3⟩ := vx_keep h0 e1 hS (fun _ _ h => h) (fun _ h => h) hL hF
    obtain ⟨t2, a1, b1⟩ := kx X9 T'.heap (locs ++ L) q ce hv1 (by rw [e1]; exact hp) (by rw [e1]; exact hz) k3 (by rw [e1]; exact hce) hcv hcl T' rfl X'
    exact ⟨t2, st.trans a1, b1⟩
theorem snd_use2 (hr : va_Run p l e R s m args below meth c H locs cells slots mc1 ms1 (F0 m pc lsA st0) rest (sQc E D dA o a) (fun q => E.1 ≤ q)) (hS : va_S (fun q => E.1 ≤ q) s.heap H locs)
    (kk : ∀ (v : Option Value) (H1 : Heap) (locs1 : List Loc), o.1 = .inl v → sP D dA o.2.1 H1 → H1.size = o.2.2.1 → va_S (fun q => E.1 ≤ q) s.heap H1 locs1 → W p l e R s m args below meth c H1 locs1 (cells + mc1) (slots + ms1) Q (F0 m (pc + 3) lsA (v.toList ++ rest))) : W p l e R s m args below meth c H locs cells slots Q (F0 m pc lsA st0) := by
  intro T hT X
  obtain ⟨v, st₀, t, T', L, h0, X', hL, e1, e2, ⟨v', hv1, hv2, hp, hz, hF⟩, st⟩ := hr T hT X
  cases hv2
  obtain ⟨k1, k2, k3⟩ := vx_keep h0 e1 hS (fun _ _ h => h) (fun _ h => h) hL hF
  obtain ⟨t2, a1, b1⟩ := kk v T'.heap (locs ++ L) hv1 (by rw [e1]; exact hp) (by rw [e1]; exact hz) k3 T' rfl X'
  exact ⟨t2, st t2 a1, b1⟩
/-- the start of a callee -/
theorem snd_pre {as : List Value} {σ : sS} (hC : sCx E D dA s) (hbs : E.1 ≤ s.heap.size) (hS : va_S (fun q => E.1 ≤ q) s.heap H locs) (hP : sP D dA σ.1 H) (hn : H.size = σ.2.1) : PreS s H (sPc E D dA as σ) as :=
  ⟨sPc_blind, fun U hU hW => ⟨rfl, hC.mv hW (fun z h1 h2 => by rw [hU]; exact hS.2.1 z h1 h2), by rw [hU]; exact hP, by rw [hU]; exact hn, by rw [← hn]; exact Nat.le_trans hbs hS.1⟩⟩
theorem snd_rcv {h : sH} {b ci : Nat} {q : vw_C} (hK : sK D dA s) (hP : sP D dA h H) (hq : gC[ci]? = some q) (hb : isOb h b ci = true) : ∃ cell : Cell, H[b]? = some cell ∧ cell.vm.isStatics = false ∧ s.vm.findClass q.1 = some cell.cls := by
  obtain ⟨fs, hb⟩ := isOb_inv hb
  rcases hP b _ hb with ⟨⟨q', h1, cell, g1, g2, g3, -⟩, -⟩ | ⟨-, cell, g1, g3, -, q', h1, g2, -⟩
  · exact ⟨cell, g1, by rw [g3]; rfl, by rw [g2]; exact (hK.1 ci q hq).1.1⟩
  · refine ⟨cell, g1, ?_, by rw [g2]; exact (hK.1 ci q hq).1.1⟩
    cases hv : cell.vm <;> first | rfl | exact absurd hv (g3 _)
theorem snd_catch (B : sBd p l E D dA r s m meth c) {X : String} {hp : Nat} {H1 : Heap} {q : Addr} {ce : Cell} (hh : sHnd r.2.2.2.2.2 pc X = some hp) (hcell : H1[q]? = some ce) (hv : ce.vm = .none) (hcl : s.vm.findClass X = some ce.cls)
    (kk : W p l e R s m args below meth c H1 locs cells slots Q (F0 m hp lsA [.ref q])) : vx_W p l e R s m args below meth c H1 locs cells slots Q (F0 m pc lsA rest) q := by
  obtain ⟨hx, hb, hml, hown, hC, hlocks, hret, hmn, hgo, hbs, htr, hT1, hT2⟩ := B
  have hts := hC.1 args
  have key : ∀ (L : List (Nat × Nat × Nat × Nat × String)), (∀ x ∈ L, x.2.2.2.1 ≠ 0 ∧ Cond.classLink r.1.cls x.2.2.2.1 x.2.2.2.2 ∈ TB ∧ x.2.2.2.2 ∈ XN) → sHnd L pc X = some hp → ∃ pre x suf, L = pre ++ x :: suf ∧ (∀ z ∈ pre, ¬ (z.1 ≤ pc ∧ pc < z.2.1) ∨ z.2.2.2.2 ≠ X) ∧ (x.1 ≤ pc ∧ pc < x.2.1) ∧ x.2.2.2.2 = X ∧ x.2.2.1 = hp := by
    intro L
    induction L with
    | nil => intro _ h; simp [sHnd] at h
    | cons x t ih =>
      intro hL h
      rw [sHnd] at h
      by_cases hc : x.1 ≤ pc ∧ pc < x.2.1
      · rw [if_pos hc] at h
        by_cases hn : x.2.2.2.2 = X
        · rw [if_pos hn] at h
          cases h
          exact ⟨[], x, t, rfl, fun z hz => absurd hz List.not_mem_nil, hc, hn, rfl⟩
        · rw [if_neg hn] at h
          obtain ⟨pre, y, suf, e1, e2, e3, e4, e5⟩ := ih (fun z hz => hL z (List.mem_cons_of_mem _ hz)) h
          refine ⟨x :: pre, y, suf, by rw [e1]; rfl, fun z hz => ?_, e3, e4, e5⟩
          rcases List.mem_cons.mp hz with rfl | hz
          · exact Or.inr hn
          · exact e2 z hz
      · rw [if_neg hc] at h
        obtain ⟨pre, y, suf, e1, e2, e3, e4, e5⟩ := ih (fun z hz => hL z (List.mem_cons_of_mem _ hz)) h
        refine ⟨x :: pre, y, suf, by rw [e1]; rfl, fun z hz => ?_, e3, e4, e5⟩
        rcases List.mem_cons.mp hz with rfl | hz
        · exact Or.inl hc
        · exact e2 z hz
  obtain ⟨pre, x, suf, e1, e2, e3, e4, e5⟩ := key _ hT2 hh
  have hx2 := hT2 x (by rw [e1]; exact List.mem_append_right _ List.mem_cons_self)
  have hX : X ∈ XN := by rw [← e4]; exact hx2.2.2
  refine vx_catch (name := X) (E := X) hown (pre.map (fun x => ({ startPc := x.1, endPc := x.2.1, handlerPc := x.2.2.1, catchType := x.2.2.2.1 } : ExceptionTableEntry))) ({ startPc := x.1, endPc := x.2.1, handlerPc := x.2.2.1, catchType := x.2.2.2.1 } : ExceptionTableEntry) (suf.map (fun x => ({ startPc := x.1, endPc := x.2.1, handlerPc := x.2.2.1, catchType := x.2.2.2.1 } : ExceptionTableEntry))) (by rw [hT1, e1]; simp) ?_ ?_ hx2.1 (by have := hts _ hx2.2.1; rw [e4] at this; exact this) ((hC.2.2.2.2.2.1 X hX).use rfl) hcell hv hcl (by dsimp only; rw [e5]; exact kk)
  · intro z hz
    obtain ⟨y, hy, rfl⟩ := List.mem_map.mp hz
    have hy2 := hT2 y (by rw [e1]; exact List.mem_append_left _ hy)
    rcases e2 y hy with h | h
    · refine Or.inl ?_
      simp only [covers, Bool.and_eq_false_iff, decide_eq_false_iff_not]
      by_cases h1 : y.1 ≤ pc
      · exact Or.inr (fun h2 => h ⟨h1, h2⟩)
      · exact Or.inl h1
    · exact Or.inr ⟨hy2.1, _, hts _ hy2.2.1, hC.2.2.2.2.2.2.1 X hX _ hy2.2.2 (fun q => h q.symm)⟩
  · simp only [covers, Bool.and_eq_true, decide_eq_true_eq]
    exact e3
end CALLS
