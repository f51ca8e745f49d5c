/-! how the evaluator runs, an equation an instruction -/
noncomputable def Rx (E : sV) (d mi pc : Nat) (ls : sL) (st : List Value) (σ : sS) : Option sO := Rn E (Mt E d) mi (pc, ls, st, σ)
noncomputable def fin (E : sV) (d mi : Nat) (x : sR) : Option sO := match x with
  | none => none
  | some (.inl c) => Rn E (Mt E d) mi c
  | some (.inr o) => some o
theorem Rx_of {E : sV} {d mi pc : Nat} {ls : sL} {st : List Value} {σ : sS} {r : gM} {i : Instr} {len : Nat} (hm : gMT mi = some r) (hd : decode r.2.1 pc = .ok (i, len)) (hl : sLen i len = true) : Rx E d mi pc ls st σ = fin E d mi (stp E (Mt E d) r i len pc ls st σ) := by
  unfold Rx
  rw [Rn_step]
  have h : step E (Mt E d) mi (pc, ls, st, σ) = stp E (Mt E d) r i len pc ls st σ := by
    unfold step
    simp only [hm, hd, hl, if_true]
  rw [h]
  rfl
theorem Mt_succ {E : sV} {d mi : Nat} {as : List Value} {σ : sS} {r : gM} (hm : gMT mi = some r) (hl : (lg_sl as).length ≤ r.2.2.1) : Mt E (d + 1) mi as σ = Rx E d mi 0 (lpad r.2.2.1 as) [] σ := by
  rw [Mt, hm]
  simp only [hl, if_true]
  rfl
theorem fin_bif {E : sV} {d mi pc : Nat} {off : Int} {ls : sL} {st : List Value} {σ : sS} {P : Prop} [Decidable P] (h0 : 0 ≤ (pc : Int) + off) : fin E d mi (bIf pc off ls st σ P) = if P then Rx E d mi (tg pc off) ls st σ else Rx E d mi (pc + 3) ls st σ := by
  unfold bIf
  rw [if_pos h0]
  split <;> rfl
theorem fin_up1 {E : sV} {d mi pc len : Nat} {ls : sL} {st : List Value} {σ : sS} {o : Option Value} : fin E d mi (up1 pc len ls st σ o) = o.bind (fun v => Rx E d mi (pc + len) ls (v :: st) σ) := by
  cases o <;> rfl
theorem fin_uph {E : sV} {d mi a pc len : Nat} {ls : sL} {st : List Value} {σ : sS} {o : Option sH} : fin E d mi (uph E a pc len ls st σ o) = if E.1 ≤ a then o.bind (fun h => Rx E d mi (pc + len) ls st (h, σ.2)) else none := by
  cases o with
  | none => split <;> rfl
  | some h =>
    show fin E d mi (if E.1 ≤ a then nx (pc + len) ls st (h, σ.2) else none) = _
    split <;> rfl
/-- a local of a kind -/
def lI (o : Option Value) (f : Int32 → Option sO) : Option sO := match o with
  | some (.int x) => f x
  | _ => none
theorem Rx_if {E : sV} {d mi pc len : Nat} {off : Int} {ls : sL} {st : List Value} {σ : sS} {r : gM} {cd : ClassFile.Cond} {x : Int32} {P : Prop} [Decidable P] (hm : gMT mi = some r) (hd : decode r.2.1 pc = .ok (.ifCond cd off, len)) (hl : sLen (.ifCond cd off) len = true) (hP : sIf cd pc off ls st σ x 0 = bIf pc off ls st σ P) (h0 : 0 ≤ (pc : Int) + off) : Rx E d mi pc ls (.int x :: st) σ = if P then Rx E d mi (tg pc off) ls st σ else Rx E d mi (pc + 3) ls st σ := by
  rw [Rx_of hm hd hl]
  show fin E d mi (sIf cd pc off ls st σ x 0) = _
  rw [hP, fin_bif h0]
theorem Rx_icmp {E : sV} {d mi pc len : Nat} {off : Int} {ls : sL} {st : List Value} {σ : sS} {r : gM} {cd : ClassFile.Cond} {x y : Int32} {P : Prop} [Decidable P] (hm : gMT mi = some r) (hd : decode r.2.1 pc = .ok (.if_icmp cd off, len)) (hl : sLen (.if_icmp cd off) len = true) (hP : sIf cd pc off ls st σ x y = bIf pc off ls st σ P) (h0 : 0 ≤ (pc : Int) + off) : Rx E d mi pc ls (.int y :: .int x :: st) σ = if P then Rx E d mi (tg pc off) ls st σ else Rx E d mi (pc + 3) ls st σ := by
  rw [Rx_of hm hd hl]
  show fin E d mi (sIf cd pc off ls st σ x y) = _
  rw [hP, fin_bif h0]
theorem Rx_acmp {E : sV} {d mi pc len : Nat} {off : Int} {ls : sL} {st : List Value} {σ : sS} {r : gM} {x y : Nat} (hm : gMT mi = some r) (hd : decode r.2.1 pc = .ok (.if_acmp .eq off, len)) (hl : sLen (.if_acmp .eq off) len = true) (h0 : 0 ≤ (pc : Int) + off) : Rx E d mi pc ls (.ref y :: .ref x :: st) σ = if x = y then Rx E d mi (tg pc off) ls st σ else Rx E d mi (pc + 3) ls st σ := by
  rw [Rx_of hm hd hl]
  show fin E d mi (bIf pc off ls st σ (x = y)) = _
  rw [fin_bif h0]
theorem Rx_goto {E : sV} {d mi pc len : Nat} {off : Int} {ls : sL} {st : List Value} {σ : sS} {r : gM} (hm : gMT mi = some r) (hd : decode r.2.1 pc = .ok (.goto off, len)) (hl : sLen (.goto off) len = true) (h0 : 0 ≤ (pc : Int) + off) : Rx E d mi pc ls st σ = Rx E d mi (tg pc off) ls st σ := by
  rw [Rx_of hm hd hl]
  show fin E d mi (jp pc off ls st σ) = _
  unfold jp
  rw [if_pos h0]
  rfl
theorem Rx_ifnullR {E : sV} {d mi pc len : Nat} {off : Int} {ls : sL} {st : List Value} {σ : sS} {r : gM} {x : Nat} (hm : gMT mi = some r) (hd : decode r.2.1 pc = .ok (.ifnull off, len)) (hl : sLen (.ifnull off) len = true) : Rx E d mi pc ls (.ref x :: st) σ = Rx E d mi (pc + 3) ls st σ := by
  rw [Rx_of hm hd hl]
  rfl
theorem Rx_ifnullN {E : sV} {d mi pc len : Nat} {off : Int} {ls : sL} {st : List Value} {σ : sS} {r : gM} (hm : gMT mi = some r) (hd : decode r.2.1 pc = .ok (.ifnull off, len)) (hl : sLen (.ifnull off) len = true) (h0 : 0 ≤ (pc : Int) + off) : Rx E d mi pc ls (.null :: st) σ = Rx E d mi (tg pc off) ls st σ := by
  rw [Rx_of hm hd hl]
  show fin E d mi (jp pc off ls st σ) = _
  unfold jp
  rw [if_pos h0]
  rfl
theorem Rx_ifnonnullN {E : sV} {d mi pc len : Nat} {off : Int} {ls : sL} {st : List Value} {σ : sS} {r : gM} (hm : gMT mi = some r) (hd : decode r.2.1 pc = .ok (.ifnonnull off, len)) (hl : sLen (.ifnonnull off) len = true) : Rx E d mi pc ls (.null :: st) σ = Rx E d mi (pc + 3) ls st σ := by
  rw [Rx_of hm hd hl]
  rfl
theorem Rx_ifnonnullR {E : sV} {d mi pc len : Nat} {off : Int} {ls : sL} {st : List Value} {σ : sS} {r : gM} {x : Nat} (hm : gMT mi = some r) (hd : decode r.2.1 pc = .ok (.ifnonnull off, len)) (hl : sLen (.ifnonnull off) len = true) (h0 : 0 ≤ (pc : Int) + off) : Rx E d mi pc ls (.ref x :: st) σ = Rx E d mi (tg pc off) ls st σ := by
  rw [Rx_of hm hd hl]
  show fin E d mi (jp pc off ls st σ) = _
  unfold jp
  rw [if_pos h0]
  rfl
theorem Rx_getf {E : sV} {d mi pc len i a c k : Nat} {ls : sL} {st : List Value} {σ : sS} {r : gM} (hm : gMT mi = some r) (hd : decode r.2.1 pc = .ok (.getfield i, len)) (hl : sLen (.getfield i) len = true) (hk : LKf r.2.2.2.2.1 i = some (c, k)) : Rx E d mi pc ls (.ref a :: st) σ = (gf σ.1 a c k).bind (fun v => Rx E d mi (pc + 3) ls (v :: st) σ) := by
  rw [Rx_of hm hd hl]
  unfold stp
  simp only [hk]
  exact fin_up1
theorem Rx_putf {E : sV} {d mi pc len i a c k : Nat} {ls : sL} {st : List Value} {σ : sS} {r : gM} {v : Value} (hm : gMT mi = some r) (hd : decode r.2.1 pc = .ok (.putfield i, len)) (hl : sLen (.putfield i) len = true) (hk : LKf r.2.2.2.2.1 i = some (c, k)) (hv : pfOk r c k v = true) : Rx E d mi pc ls (v :: .ref a :: st) σ = if E.1 ≤ a then (pf σ.1 a c k v).bind (fun h => Rx E d mi (pc + 3) ls st (h, σ.2)) else none := by
  rw [Rx_of hm hd hl]
  unfold stp
  simp only [hk, hv, if_true]
  exact fin_uph
theorem Rx_gets {E : sV} {d mi pc len i k : Nat} {ls : sL} {st : List Value} {σ : sS} {r : gM} (hm : gMT mi = some r) (hd : decode r.2.1 pc = .ok (.getstatic i, len)) (hl : sLen (.getstatic i) len = true) (hk : LKs r.2.2.2.2.1 i = some k) : Rx E d mi pc ls st σ = Rx E d mi (pc + 3) ls (E.2 k :: st) σ := by
  rw [Rx_of hm hd hl]
  unfold stp
  simp only [hk]
  rfl
theorem Rx_ldcw {E : sV} {d mi pc len i k : Nat} {ls : sL} {st : List Value} {σ : sS} {r : gM} (hm : gMT mi = some r) (hd : decode r.2.1 pc = .ok (.ldc_w i, len)) (hl : sLen (.ldc_w i) len = true) (hk : LKt r.2.2.2.2.1 i = some k) : Rx E d mi pc ls st σ = Rx E d mi (pc + 3) ls (E.2 k :: st) σ := by
  rw [Rx_of hm hd hl]
  unfold stp
  simp only [hk]
  rfl
theorem Rx_ldcI {E : sV} {d mi pc len i : Nat} {x : Int32} {ls : sL} {st : List Value} {σ : sS} {r : gM} (hm : gMT mi = some r) (hd : decode r.2.1 pc = .ok (.ldc i, len)) (hl : sLen (.ldc i) len = true) (hk : LKk r.2.2.2.2.1 i = some (.int x)) : Rx E d mi pc ls st σ = Rx E d mi (pc + 2) ls (.int x :: st) σ := by
  rw [Rx_of hm hd hl]
  unfold stp
  simp only [hk]
  rfl
theorem Rx_ldcF {E : sV} {d mi pc len i : Nat} {x : UInt32} {ls : sL} {st : List Value} {σ : sS} {r : gM} (hm : gMT mi = some r) (hd : decode r.2.1 pc = .ok (.ldc i, len)) (hl : sLen (.ldc i) len = true) (hk : LKk r.2.2.2.2.1 i = some (.float x)) : Rx E d mi pc ls st σ = Rx E d mi (pc + 2) ls (.float x :: st) σ := by
  rw [Rx_of hm hd hl]
  unfold stp
  simp only [hk]
  rfl
theorem Rx_ldc2 {E : sV} {d mi pc len i : Nat} {x : Int64} {ls : sL} {st : List Value} {σ : sS} {r : gM} (hm : gMT mi = some r) (hd : decode r.2.1 pc = .ok (.ldc2_w i, len)) (hl : sLen (.ldc2_w i) len = true) (hk : LKk r.2.2.2.2.1 i = some (.long x)) : Rx E d mi pc ls st σ = Rx E d mi (pc + 3) ls (.long x :: st) σ := by
  rw [Rx_of hm hd hl]
  unfold stp
  simp only [hk]
  rfl
theorem Rx_ald {E : sV} {d mi pc len a : Nat} {i : Int32} {ls : sL} {st : List Value} {σ : sS} {r : gM} {ins : Instr} {o : Option Value} (hm : gMT mi = some r) (hd : decode r.2.1 pc = .ok (ins, len)) (hl : sLen ins len = true) (hs : stp E (Mt E d) r ins len pc ls (.int i :: .ref a :: st) σ = up1 pc 1 ls st σ o) : Rx E d mi pc ls (.int i :: .ref a :: st) σ = o.bind (fun v => Rx E d mi (pc + 1) ls (v :: st) σ) := by
  rw [Rx_of hm hd hl, hs, fin_up1]
theorem Rx_ast {E : sV} {d mi pc len a : Nat} {i : Int32} {v : Value} {ls : sL} {st : List Value} {σ : sS} {r : gM} {ins : Instr} {o : Option sH} (hm : gMT mi = some r) (hd : decode r.2.1 pc = .ok (ins, len)) (hl : sLen ins len = true) (hs : stp E (Mt E d) r ins len pc ls (v :: .int i :: .ref a :: st) σ = uph E a pc 1 ls st σ o) : Rx E d mi pc ls (v :: .int i :: .ref a :: st) σ = if E.1 ≤ a then o.bind (fun h => Rx E d mi (pc + 1) ls st (h, σ.2)) else none := by
  rw [Rx_of hm hd hl, hs, fin_uph]
theorem Rx_alen {E : sV} {d mi pc len a : Nat} {ls : sL} {st : List Value} {σ : sS} {r : gM} (hm : gMT mi = some r) (hd : decode r.2.1 pc = .ok (.arraylength, len)) (hl : sLen .arraylength len = true) : Rx E d mi pc ls (.ref a :: st) σ = (alen σ.1 a).bind (fun n => Rx E d mi (pc + 1) ls (.int n :: st) σ) := by
  rw [Rx_of hm hd hl]
  unfold stp
  cases h : alen σ.1 a <;> simp only [h] <;> rfl
theorem Rx_guard {E : sV} {d mi : Nat} {P : Prop} [Decidable P] {x : sR} {y : Option sO} (h : fin E d mi x = y) : fin E d mi (if P then x else none) = if P then y else none := by
  split
  · exact h
  · rfl
theorem Rx_nguard {E : sV} {d mi : Nat} {P : Prop} [Decidable P] {x : sR} {y : Option sO} (h : fin E d mi x = y) : fin E d mi (if P then none else x) = if P then none else y := by
  split
  · rfl
  · exact h
/-- behind a call of a method without handlers -/
def callK (o : Option sO) (f : Option Value → sS → Option sO) : Option sO := match o with
  | some (.inl v, σ) => f v σ
  | some (.inr E, σ) => some (.inr E, σ)
  | none => none
theorem callK_ret (v : Option Value) (σ : sS) (f : Option Value → sS → Option sO) : callK (some (.inl v, σ)) f = f v σ := rfl
theorem callK_thr (E : String) (σ : sS) (f : Option Value → sS → Option sO) : callK (some (.inr E, σ)) f = some (.inr E, σ) := rfl
theorem fin_sRet {E : sV} {d mi pc : Nat} {ls : sL} {st : List Value} {r : gM} {o : Option sO} (hx : r.2.2.2.2.2 = []) : fin E d mi (sRet r pc ls st o) = callK o (fun v σ => Rx E d mi (pc + 3) ls (v.toList ++ st) σ) := by
  cases o with
  | none => rfl
  | some o =>
    obtain ⟨v | ex, σ⟩ := o
    · rfl
    · unfold sRet
      simp only [hx, if_true]
      rfl
/-- behind a call that may only return -/
def callR (o : Option sO) (f : Option Value → sS → Option sO) : Option sO := match o with
  | some (.inl v, σ) => f v σ
  | _ => none
theorem callR_ret (v : Option Value) (σ : sS) (f : Option Value → sS → Option sO) : callR (some (.inl v, σ)) f = f v σ := rfl
theorem fin_sRet2 {E : sV} {d mi pc : Nat} {ls : sL} {st : List Value} {o : Option sO} : fin E d mi (sRet2 pc ls st o) = callR o (fun v σ => Rx E d mi (pc + 3) ls (v.toList ++ st) σ) := by
  cases o with
  | none => rfl
  | some o =>
    obtain ⟨v | ex, σ⟩ := o <;> rfl
theorem inv_i {E : sV} {d : Nat} {r : gM} {pc : Nat} {ls : sL} {st as rest : List Value} {σ : sS} {thr : Bool} {t : Nat × Nat × Nat × Nat} {b : Nat} (hp : popN t.2.2.2 st = some (as, .ref b :: rest)) : sInv (Mt E d) r pc ls st σ true thr t = if cats rest ≤ 8 ∧ (t.2.1 = 2 ∨ t.2.1 = 4 ∨ isOb σ.1 b t.2.2.1 = true) then (if thr then sRet r pc ls rest (Mt E d t.1 (.ref b :: as) σ) else sRet2 pc ls rest (Mt E d t.1 (.ref b :: as) σ)) else none := by
  unfold sInv
  simp only [hp, if_true]
theorem inv_s {E : sV} {d : Nat} {r : gM} {pc : Nat} {ls : sL} {st as rest : List Value} {σ : sS} {thr : Bool} {t : Nat × Nat × Nat × Nat} (hp : popN t.2.2.2 st = some (as, rest)) : sInv (Mt E d) r pc ls st σ false thr t = if cats rest ≤ 8 then (if thr then sRet r pc ls rest (Mt E d t.1 as σ) else sRet2 pc ls rest (Mt E d t.1 as σ)) else none := by
  unfold sInv
  simp only [hp]
  rfl
theorem Rx_callV {E : sV} {d mi pc len i k fm c n b : Nat} {ls : sL} {st as rest : List Value} {σ : sS} {r : gM} (hm : gMT mi = some r) (hd : decode r.2.1 pc = .ok (.invokevirtual i, len)) (hl : sLen (.invokevirtual i) len = true) (hk : LKm r.2.2.2.2.1 i = some (k, fm, c, n)) (hf : fm = 0) (hx : r.2.2.2.2.2 = []) (hp : popN n st = some (as, .ref b :: rest)) : Rx E d mi pc ls st σ = if cats rest ≤ 8 ∧ isOb σ.1 b c = true then callK (Mt E d k (.ref b :: as) σ) (fun v σ => Rx E d mi (pc + 3) ls (v.toList ++ rest) σ) else none := by
  rw [Rx_of hm hd hl]
  subst hf
  unfold stp
  simp only [hk, if_true]
  rw [inv_i (t := (k, 0, c, n)) hp]
  have h1 : ((0 : Nat) = 2 ∨ (0 : Nat) = 4 ∨ isOb σ.1 b c = true) ↔ isOb σ.1 b c = true := by simp
  simp only [h1, if_true]
  exact Rx_guard (fin_sRet hx)
theorem Rx_callU {E : sV} {d mi pc len i k fm c n b : Nat} {ls : sL} {st as rest : List Value} {σ : sS} {r : gM} (hm : gMT mi = some r) (hd : decode r.2.1 pc = .ok (.invokevirtual i, len)) (hl : sLen (.invokevirtual i) len = true) (hk : LKm r.2.2.2.2.1 i = some (k, fm, c, n)) (hf : fm = 5) (hp : popN n st = some (as, .ref b :: rest)) : Rx E d mi pc ls st σ = if cats rest ≤ 8 ∧ isOb σ.1 b c = true then callR (Mt E d k (.ref b :: as) σ) (fun v σ => Rx E d mi (pc + 3) ls (v.toList ++ rest) σ) else none := by
  rw [Rx_of hm hd hl]
  subst hf
  unfold stp
  have h5 : ¬ (5 : Nat) = 0 := by decide
  simp only [hk, h5, if_false, if_true]
  rw [inv_i (t := (k, 5, c, n)) hp]
  have h1 : ((5 : Nat) = 2 ∨ (5 : Nat) = 4 ∨ isOb σ.1 b c = true) ↔ isOb σ.1 b c = true := by simp
  simp only [h1, Bool.false_eq_true, if_false]
  exact Rx_guard fin_sRet2
theorem Rx_callI {E : sV} {d mi pc len i k fm c n b : Nat} {ls : sL} {st as rest : List Value} {σ : sS} {r : gM} (hm : gMT mi = some r) (hd : decode r.2.1 pc = .ok (.invokespecial i, len)) (hl : sLen (.invokespecial i) len = true) (ho : LKo r.2.2.2.2.1 i = none) (hk : LKm r.2.2.2.2.1 i = some (k, fm, c, n)) (hf : fm = 2 ∨ fm = 4) (hp : popN n st = some (as, .ref b :: rest)) : Rx E d mi pc ls st σ = if cats rest ≤ 8 then callR (Mt E d k (.ref b :: as) σ) (fun v σ => Rx E d mi (pc + 3) ls (v.toList ++ rest) σ) else none := by
  rw [Rx_of hm hd hl]
  unfold stp
  have hf3 : fm = 2 ∨ fm = 4 ∨ fm = 6 := by omega
  simp only [ho, hk, hf3, if_true]
  rw [inv_i (t := (k, fm, c, n)) hp]
  have h1 : (cats rest ≤ 8 ∧ (fm = 2 ∨ fm = 4 ∨ isOb σ.1 b c = true)) ↔ cats rest ≤ 8 := ⟨fun h => h.1, fun h => ⟨h, by omega⟩⟩
  simp only [h1, Bool.false_eq_true, if_false]
  exact Rx_guard fin_sRet2
theorem Rx_callP {E : sV} {d mi pc len i k fm c n b : Nat} {ls : sL} {st as rest : List Value} {σ : sS} {r : gM} (hm : gMT mi = some r) (hd : decode r.2.1 pc = .ok (.invokespecial i, len)) (hl : sLen (.invokespecial i) len = true) (ho : LKo r.2.2.2.2.1 i = none) (hk : LKm r.2.2.2.2.1 i = some (k, fm, c, n)) (hf : fm = 6) (hp : popN n st = some (as, .ref b :: rest)) : Rx E d mi pc ls st σ = if cats rest ≤ 8 ∧ isOb σ.1 b c = true then callR (Mt E d k (.ref b :: as) σ) (fun v σ => Rx E d mi (pc + 3) ls (v.toList ++ rest) σ) else none := by
  rw [Rx_of hm hd hl]
  unfold stp
  have hf3 : fm = 2 ∨ fm = 4 ∨ fm = 6 := by omega
  simp only [ho, hk, hf3, if_true]
  rw [inv_i (t := (k, fm, c, n)) hp]
  have h1 : (fm = 2 ∨ fm = 4 ∨ isOb σ.1 b c = true) ↔ isOb σ.1 b c = true := ⟨fun h => by
    rcases h with h | h | h
    · omega
    · omega
    · exact h, fun h => Or.inr (Or.inr h)⟩
  simp only [h1, Bool.false_eq_true, if_false]
  exact Rx_guard fin_sRet2
theorem Rx_callS {E : sV} {d mi pc len i k fm c n : Nat} {ls : sL} {st as rest : List Value} {σ : sS} {r : gM} (hm : gMT mi = some r) (hd : decode r.2.1 pc = .ok (.invokestatic i, len)) (hl : sLen (.invokestatic i) len = true) (hk : LKm r.2.2.2.2.1 i = some (k, fm, c, n)) (hf : fm = 1) (hx : r.2.2.2.2.2 = []) (hp : popN n st = some (as, rest)) : Rx E d mi pc ls st σ = if cats rest ≤ 8 then callK (Mt E d k as σ) (fun v σ => Rx E d mi (pc + 3) ls (v.toList ++ rest) σ) else none := by
  rw [Rx_of hm hd hl]
  subst hf
  unfold stp
  simp only [hk, if_true]
  rw [inv_s (t := (k, 1, c, n)) hp]
  simp only [if_true]
  exact Rx_guard (fin_sRet hx)
theorem Rx_callT {E : sV} {d mi pc len i k fm c n : Nat} {ls : sL} {st as rest : List Value} {σ : sS} {r : gM} (hm : gMT mi = some r) (hd : decode r.2.1 pc = .ok (.invokestatic i, len)) (hl : sLen (.invokestatic i) len = true) (hk : LKm r.2.2.2.2.1 i = some (k, fm, c, n)) (hf : fm = 3) (hp : popN n st = some (as, rest)) : Rx E d mi pc ls st σ = if cats rest ≤ 8 then callR (Mt E d k as σ) (fun v σ => Rx E d mi (pc + 3) ls (v.toList ++ rest) σ) else none := by
  rw [Rx_of hm hd hl]
  subst hf
  unfold stp
  have h3 : ¬ (3 : Nat) = 1 := by decide
  simp only [hk, h3, if_false, if_true]
  rw [inv_s (t := (k, 3, c, n)) hp]
  simp only [Bool.false_eq_true, if_false]
  exact Rx_guard fin_sRet2
theorem Rx_acpy {E : sV} {d mi pc len i k a0 a : Nat} {n dp sp : Int32} {ls : sL} {st : List Value} {σ : sS} {r : gM} (hm : gMT mi = some r) (hd : decode r.2.1 pc = .ok (.invokestatic i, len)) (hl : sLen (.invokestatic i) len = true) (hk : LKm r.2.2.2.2.1 i = none) (hh : LKh r.2.2.2.2.1 i = none) (hy : LKy r.2.2.2.2.1 i = some k) : Rx E d mi pc ls (.int n :: .int dp :: .ref a :: .int sp :: .ref a0 :: st) σ = if cats st ≤ 8 then (if E.1 ≤ a then (acpy σ.1 a0 sp a dp n).bind (fun h => Rx E d mi (pc + 3) ls st (h, σ.2)) else none) else none := by
  rw [Rx_of hm hd hl]
  unfold stp
  simp only [hk, hh, hy]
  exact Rx_guard fin_uph
theorem Rx_new {E : sV} {d mi pc len i ci N : Nat} {fs : List Value} {q : vw_C} {ls : sL} {st : List Value} {σ : sS} {r : gM} (hm : gMT mi = some r) (hd : decode r.2.1 pc = .ok (.new i, len)) (hl : sLen (.new i) len = true) (hk : LKc r.2.2.2.2.1 i = some ci) (hD : gDef ci = some fs) (hq : gC[ci]? = some q) (hN : q.2.2 = N) : Rx E d mi pc ls st σ = Rx E d mi (pc + 3) ls (.ref σ.2.1 :: st) (hset σ.1 σ.2.1 (.inr (ci, fs)), σ.2.1 + 1, σ.2.2 + N) := by
  rw [Rx_of hm hd hl]
  unfold stp
  simp only [hk, hD, hq, hN]
  rfl
theorem Rx_throw {E : sV} {d mi pc len i ic : Nat} {cls : String} {ls : sL} {st : List Value} {σ : sS} {r : gM} (hm : gMT mi = some r) (hd : decode r.2.1 pc = .ok (.new i, len)) (hl : sLen (.new i) len = true) (hk : LKc r.2.2.2.2.1 i = none) (hX : LKx r.2.2.2.2.1 i = some (cls, ic)) (hx : r.2.2.2.2.2 = []) (h3 : decode r.2.1 (pc + 3) = .ok (.dup, 1)) (h4 : decode r.2.1 (pc + 4) = .ok (.invokespecial ic, 3)) (h7 : decode r.2.1 (pc + 7) = .ok (.athrow, 1)) : Rx E d mi pc ls st σ = if cats st ≤ 8 then some (.inr cls, (σ.1, σ.2.1 + 1, σ.2.2 + 6)) else none := by
  rw [Rx_of hm hd hl]
  unfold stp
  simp only [hk, hX, hx, h3, h4, h7, true_and, and_true]
  split <;> rfl
theorem Rx_anew {E : sV} {d mi pc len i ci : Nat} {n : Int32} {q : vw_C} {C : String} {ls : sL} {st : List Value} {σ : sS} {r : gM} (hm : gMT mi = some r) (hd : decode r.2.1 pc = .ok (.anewarray i, len)) (hl : sLen (.anewarray i) len = true) (hk : LKa r.2.2.2.2.1 i = some ci) (hq : gC[ci]? = some q) (hC : q.1 = C) : Rx E d mi pc ls (.int n :: st) σ = if n < 0 ∨ 536870912 < n.toNatClampNeg * 4 then none else Rx E d mi (pc + 3) ls (.ref σ.2.1 :: st) (hset σ.1 σ.2.1 (.inl (.object C, (n.toNatClampNeg, .inr (.inr (.inr (.inr (fun _ => none))))))), σ.2.1 + 1, σ.2.2 + n.toNatClampNeg) := by
  rw [Rx_of hm hd hl]
  unfold stp
  simp only [hk, hq, hC]
  exact Rx_nguard rfl
theorem Rx_newa {E : sV} {d mi pc len : Nat} {ty : ArrayType} {x : vp_A} {n : Int32} {F : FieldType} {ls : sL} {st : List Value} {σ : sS} {r : gM} (hm : gMT mi = some r) (hd : decode r.2.1 pc = .ok (.newarray ty, len)) (hl : sLen (.newarray ty) len = true) (hF : newarray.typeOf ty = F) (hz : zarr F n.toNatClampNeg = some x) : Rx E d mi pc ls (.int n :: st) σ = if n < 0 ∨ 536870912 < n.toNatClampNeg * componentBytes F then none else Rx E d mi (pc + 2) ls (.ref σ.2.1 :: st) (hset σ.1 σ.2.1 (.inl (F, x)), σ.2.1 + 1, σ.2.2 + n.toNatClampNeg) := by
  rw [Rx_of hm hd hl]
  subst hF
  unfold stp
  simp only [hz]
  exact Rx_nguard rfl
theorem Rx_nz {E : sV} {d mi pc len : Nat} {ls : sL} {st st' : List Value} {σ : sS} {r : gM} {ins : Instr} {P : Prop} [Decidable P] {pc' : Nat} (hm : gMT mi = some r) (hd : decode r.2.1 pc = .ok (ins, len)) (hl : sLen ins len = true) (hs : stp E (Mt E d) r ins len pc ls st σ = if P then none else nx pc' ls st' σ) : Rx E d mi pc ls st σ = if P then none else Rx E d mi pc' ls st' σ := by
  rw [Rx_of hm hd hl, hs]
  exact Rx_nguard rfl
theorem Rx_pz {E : sV} {d mi pc len : Nat} {ls : sL} {st st' : List Value} {σ : sS} {r : gM} {ins : Instr} {P : Prop} [Decidable P] {pc' : Nat} (hm : gMT mi = some r) (hd : decode r.2.1 pc = .ok (ins, len)) (hl : sLen ins len = true) (hs : stp E (Mt E d) r ins len pc ls st σ = if P then nx pc' ls st' σ else none) : Rx E d mi pc ls st σ = if P then Rx E d mi pc' ls st' σ else none := by
  rw [Rx_of hm hd hl, hs]
  exact Rx_guard rfl
theorem Rx_iret {E : sV} {d mi pc len : Nat} {ls : sL} {v : Int32} {σ : sS} {r : gM} {ty : FieldType} (hm : gMT mi = some r) (hd : decode r.2.1 pc = .ok (.ireturn, len)) (hl : sLen .ireturn len = true) (hr : r.2.2.2.1 = some ty) : Rx E d mi pc ls [.int v] σ = if narrow ty (.int v) = .int v then some (.inl (some (.int v)), σ) else none := by
  rw [Rx_of hm hd hl]
  unfold stp
  simp only [hr]
  split <;> rfl
theorem Rx_iretI {E : sV} {d mi pc len : Nat} {ls : sL} {v : Int32} {σ : sS} {r : gM} (hm : gMT mi = some r) (hd : decode r.2.1 pc = .ok (.ireturn, len)) (hl : sLen .ireturn len = true) (hr : r.2.2.2.1 = some .int) : Rx E d mi pc ls [.int v] σ = some (.inl (some (.int v)), σ) := by
  rw [Rx_iret hm hd hl hr]
  exact if_pos rfl
theorem Rx_aret {E : sV} {d mi pc len : Nat} {ls : sL} {a : Nat} {σ : sS} {r : gM} (hm : gMT mi = some r) (hd : decode r.2.1 pc = .ok (.areturn, len)) (hl : sLen .areturn len = true) (hr : (∃ c, r.2.2.2.1 = some (.object c)) ∨ ∃ t, r.2.2.2.1 = some (.array t)) : Rx E d mi pc ls [.ref a] σ = some (.inl (some (.ref a)), σ) := by
  rw [Rx_of hm hd hl]
  unfold stp
  rcases hr with ⟨c, hr⟩ | ⟨c, hr⟩ <;> simp only [hr] <;> rfl
theorem Rx_aretN {E : sV} {d mi pc len : Nat} {ls : sL} {σ : sS} {r : gM} (hm : gMT mi = some r) (hd : decode r.2.1 pc = .ok (.areturn, len)) (hl : sLen .areturn len = true) (hr : (∃ c, r.2.2.2.1 = some (.object c)) ∨ ∃ t, r.2.2.2.1 = some (.array t)) : Rx E d mi pc ls [.null] σ = some (.inl (some .null), σ) := by
  rw [Rx_of hm hd hl]
  unfold stp
  rcases hr with ⟨c, hr⟩ | ⟨c, hr⟩ <;> simp only [hr] <;> rfl
theorem Rx_vret {E : sV} {d mi pc len : Nat} {ls : sL} {σ : sS} {r : gM} (hm : gMT mi = some r) (hd : decode r.2.1 pc = .ok (.return_, len)) (hl : sLen .return_ len = true) (hr : r.2.2.2.1 = none) : Rx E d mi pc ls [] σ = some (.inl none, σ) := by
  rw [Rx_of hm hd hl]
  unfold stp
  simp only [hr]
  rfl
theorem Rx_lret {E : sV} {d mi pc len : Nat} {ls : sL} {v : Int64} {σ : sS} {r : gM} (hm : gMT mi = some r) (hd : decode r.2.1 pc = .ok (.lreturn, len)) (hl : sLen .lreturn len = true) (hr : r.2.2.2.1 = some .long) : Rx E d mi pc ls [.long v] σ = some (.inl (some (.long v)), σ) := by
  rw [Rx_of hm hd hl]
  unfold stp
  simp only [hr]
  rfl
theorem Rx_fret {E : sV} {d mi pc len : Nat} {ls : sL} {v : UInt32} {σ : sS} {r : gM} (hm : gMT mi = some r) (hd : decode r.2.1 pc = .ok (.freturn, len)) (hl : sLen .freturn len = true) (hr : r.2.2.2.1 = some .float) : Rx E d mi pc ls [.float v] σ = some (.inl (some (.float v)), σ) := by
  rw [Rx_of hm hd hl]
  unfold stp
  simp only [hr]
  rfl
theorem Rx_dret {E : sV} {d mi pc len : Nat} {ls : sL} {v : UInt64} {σ : sS} {r : gM} (hm : gMT mi = some r) (hd : decode r.2.1 pc = .ok (.dreturn, len)) (hl : sLen .dreturn len = true) (hr : r.2.2.2.1 = some .double) : Rx E d mi pc ls [.double v] σ = some (.inl (some (.double v)), σ) := by
  rw [Rx_of hm hd hl]
  unfold stp
  simp only [hr]
  rfl
theorem fin_sRetX {E : sV} {d mi pc : Nat} {ls : sL} {st : List Value} {r : gM} {ex : String} {σ : sS} {hp k len : Nat} (hx : ¬ r.2.2.2.2.2 = []) (hh : sHnd r.2.2.2.2.2 pc ex = some hp) (hd : decode r.2.1 hp = .ok (.astore k, len)) (hl : len = 2 ∧ k < ls.length) : fin E d mi (sRet r pc ls st (some (.inr ex, σ))) = Rx E d mi (hp + 2) (lnone (lset1 ls k .null) k) [] σ := by
  unfold sRet
  simp only [hx, if_false, hh, hd, hl, and_self, if_true]
  rfl
theorem fin_sRetXn {E : sV} {d mi pc : Nat} {ls : sL} {st : List Value} {r : gM} {ex : String} {σ : sS} {hp len : Nat} {k : Fin 4} (hx : ¬ r.2.2.2.2.2 = []) (hh : sHnd r.2.2.2.2.2 pc ex = some hp) (hd : decode r.2.1 hp = .ok (.astore_n k, len)) (hl : len = 1 ∧ (k : Nat) < ls.length) : fin E d mi (sRet r pc ls st (some (.inr ex, σ))) = Rx E d mi (hp + 1) (lnone (lset1 ls k .null) k) [] σ := by
  unfold sRet
  simp only [hx, if_false, hh, hd, hl, and_self, if_true]
  rfl
theorem Rx_callW {E : sV} {d mi pc len i k fm c n b : Nat} {ls : sL} {st as rest : List Value} {σ : sS} {r : gM} (hm : gMT mi = some r) (hd : decode r.2.1 pc = .ok (.invokevirtual i, len)) (hl : sLen (.invokevirtual i) len = true) (hk : LKm r.2.2.2.2.1 i = some (k, fm, c, n)) (hf : fm = 0) (hp : popN n st = some (as, .ref b :: rest)) (hc : cats rest ≤ 8) (hb : isOb σ.1 b c = true) : Rx E d mi pc ls st σ = fin E d mi (sRet r pc ls rest (Mt E d k (.ref b :: as) σ)) := by
  rw [Rx_of hm hd hl]
  subst hf
  unfold stp
  simp only [hk, if_true]
  rw [inv_i (t := (k, 0, c, n)) hp]
  simp only [hc, hb, or_true, and_self, if_true]
theorem Rx_tsw {E : sV} {d mi pc len : Nat} {df lo hi off : Int} {offs : Array Int} {x : Int32} {ls : sL} {st : List Value} {σ : sS} {r : gM} (hm : gMT mi = some r) (hd : decode r.2.1 pc = .ok (.tableswitch df lo hi offs, len)) (hl : sLen (.tableswitch df lo hi offs) len = true) (h1 : ¬ (x.toInt < lo ∨ hi < x.toInt)) (ho : offs[(x.toInt - lo).toNat]? = some off) (h0 : 0 ≤ (pc : Int) + off) {tgt : Nat} (ht : tg pc off = tgt) : Rx E d mi pc ls (.int x :: st) σ = Rx E d mi tgt ls st σ := by
  rw [Rx_of hm hd hl]
  unfold stp
  simp only [h1, if_false, ho]
  unfold jp
  rw [if_pos h0, ← ht]
  rfl
theorem Rx_tswD {E : sV} {d mi pc len : Nat} {df lo hi : Int} {offs : Array Int} {x : Int32} {ls : sL} {st : List Value} {σ : sS} {r : gM} (hm : gMT mi = some r) (hd : decode r.2.1 pc = .ok (.tableswitch df lo hi offs, len)) (hl : sLen (.tableswitch df lo hi offs) len = true) (h1 : x.toInt < lo ∨ hi < x.toInt) (h0 : 0 ≤ (pc : Int) + df) {tgt : Nat} (ht : tg pc df = tgt) : Rx E d mi pc ls (.int x :: st) σ = Rx E d mi tgt ls st σ := by
  rw [Rx_of hm hd hl]
  unfold stp
  simp only [h1, if_true]
  unfold jp
  rw [if_pos h0, ← ht]
  rfl
theorem pfOk_of {r : gM} {ci k : Nat} {v : Value} {q : vw_C} {y : Nat → FieldType} (hq : gC[ci]? = some q) (hy : gY[ci]? = some y) (hc : ci < 10) (hk : k < q.2.2) (hn : narrow (y k) v = v) (hf : fits (y k) v = true) (hfin : (q.2.1 k).2.2.2 = false ∨ (r.1.name = "<init>" ∧ (q.2.1 k).1 = r.1.cls)) : pfOk r ci k v = true := by
  unfold pfOk
  rw [hq, hy]
  simp only [hc, hk, hn, hf, decide_true, Bool.true_and, Bool.or_eq_true, Bool.and_eq_true, Bool.not_eq_true', decide_eq_true_eq]
  exact hfin
theorem Rx_oinit {E : sV} {d mi pc len i b k : Nat} {ls : sL} {st : List Value} {σ : sS} {r : gM} (hm : gMT mi = some r) (hd : decode r.2.1 pc = .ok (.invokespecial i, len)) (hl : sLen (.invokespecial i) len = true) (ho : LKo r.2.2.2.2.1 i = some k) : Rx E d mi pc ls (.ref b :: st) σ = if cats st ≤ 8 then Rx E d mi (pc + 3) ls st σ else none := by
  rw [Rx_of hm hd hl]
  unfold stp
  simp only [ho]
  exact Rx_guard rfl
theorem Rx_abs {E : sV} {d mi pc len i : Nat} {x : Int32} {ls : sL} {st : List Value} {σ : sS} {r : gM} (hm : gMT mi = some r) (hd : decode r.2.1 pc = .ok (.invokestatic i, len)) (hl : sLen (.invokestatic i) len = true) (hk : LKm r.2.2.2.2.1 i = none) (hh : LKh r.2.2.2.2.1 i = some 0) : Rx E d mi pc ls (.int x :: st) σ = if cats st ≤ 8 then Rx E d mi (pc + 3) ls (.int (if 0 ≤ x then x else 0 - x) :: st) σ else none := by
  rw [Rx_of hm hd hl]
  unfold stp
  simp only [hk, hh]
  exact Rx_guard rfl
theorem Rx_max {E : sV} {d mi pc len i : Nat} {x y : Int32} {ls : sL} {st : List Value} {σ : sS} {r : gM} (hm : gMT mi = some r) (hd : decode r.2.1 pc = .ok (.invokestatic i, len)) (hl : sLen (.invokestatic i) len = true) (hk : LKm r.2.2.2.2.1 i = none) (hh : LKh r.2.2.2.2.1 i = some 1) : Rx E d mi pc ls (.int y :: .int x :: st) σ = if cats st ≤ 8 then Rx E d mi (pc + 3) ls (.int (if x < y then y else x) :: st) σ else none := by
  rw [Rx_of hm hd hl]
  unfold stp
  simp only [hk, hh]
  exact Rx_guard rfl
theorem Rx_min {E : sV} {d mi pc len i : Nat} {x y : Int32} {ls : sL} {st : List Value} {σ : sS} {r : gM} (hm : gMT mi = some r) (hd : decode r.2.1 pc = .ok (.invokestatic i, len)) (hl : sLen (.invokestatic i) len = true) (hk : LKm r.2.2.2.2.1 i = none) (hh : LKh r.2.2.2.2.1 i = some 2) : Rx E d mi pc ls (.int y :: .int x :: st) σ = if cats st ≤ 8 then Rx E d mi (pc + 3) ls (.int (if y < x then y else x) :: st) σ else none := by
  rw [Rx_of hm hd hl]
  unfold stp
  simp only [hk, hh]
  exact Rx_guard rfl
