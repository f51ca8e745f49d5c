/-! an equation an instruction, by wip/whole/gen_q.py -/
theorem QASB_init_0 : (∀ (E : sV) (d : Nat) (l1 : Option Value) (x : Nat) (st : List Value) (σ : sS), Rx E d 291 0 [some (.ref x), l1] st σ = Rx E d 291 1 [some (.ref x), l1] (.ref x :: st) σ) ∧
  (∀ (E : sV) (d : Nat) (l1 : Option Value) (st : List Value) (σ : sS), Rx E d 291 0 [some (.null), l1] st σ = Rx E d 291 1 [some (.null), l1] (.null :: st) σ) ∧
  (∀ (E : sV) (d : Nat) (l0 l1 : Option Value) (b : Nat) (st : List Value) (σ : sS), Rx E d 291 1 [l0, l1] (.ref b :: st) σ = if cats st ≤ 8 then Rx E d 291 4 [l0, l1] st σ else none) ∧
  (∀ (E : sV) (d : Nat) (l0 l1 : Option Value) (st : List Value) (σ : sS), Rx E d 291 4 [l0, l1] st σ = Rx E d 291 7 [l0, l1] (E.2 0 :: st) σ) ∧
  (∀ (E : sV) (d : Nat) (l0 l1 : Option Value) (x : Int32) (st : List Value) (σ : sS), Rx E d 291 7 [l0, l1] (.int x :: st) σ = if x = 0 then Rx E d 291 25 [l0, l1] st σ else Rx E d 291 10 [l0, l1] st σ) ∧
  (∀ (E : sV) (d : Nat) (l1 : Option Value) (x : Nat) (st : List Value) (σ : sS), Rx E d 291 10 [some (.ref x), l1] st σ = Rx E d 291 11 [some (.ref x), l1] (.ref x :: st) σ) ∧
  (∀ (E : sV) (d : Nat) (l1 : Option Value) (st : List Value) (σ : sS), Rx E d 291 10 [some (.null), l1] st σ = Rx E d 291 11 [some (.null), l1] (.null :: st) σ) ∧
  (∀ (E : sV) (d : Nat) (l0 : Option Value) (x : Int32) (st : List Value) (σ : sS), Rx E d 291 11 [l0, some (.int x)] st σ = Rx E d 291 12 [l0, some (.int x)] (.int x :: st) σ) ∧
  (∀ (E : sV) (d : Nat) (l0 l1 : Option Value) (n : Int32) (st : List Value) (σ : sS), Rx E d 291 12 [l0, l1] (.int n :: st) σ = if n < 0 ∨ 536870912 < n.toNatClampNeg * componentBytes .byte then none else Rx E d 291 14 [l0, l1] (.ref σ.2.1 :: st) (hset σ.1 σ.2.1 (.inl (.byte, (n.toNatClampNeg, .inl (fun _ => 0)))), σ.2.1 + 1, σ.2.2 + n.toNatClampNeg)) ∧
  (∀ (E : sV) (d : Nat) (l0 l1 : Option Value) (x : Nat) (a : Nat) (st : List Value) (σ : sS), Rx E d 291 14 [l0, l1] (.ref x :: .ref a :: st) σ = if E.1 ≤ a then (pf σ.1 a 9 0 (.ref x)).bind (fun h => Rx E d 291 17 [l0, l1] st (h, σ.2)) else none) ∧
  (∀ (E : sV) (d : Nat) (l0 l1 : Option Value) (a : Nat) (st : List Value) (σ : sS), Rx E d 291 14 [l0, l1] (.null :: .ref a :: st) σ = if E.1 ≤ a then (pf σ.1 a 9 0 (.null)).bind (fun h => Rx E d 291 17 [l0, l1] st (h, σ.2)) else none) ∧
  (∀ (E : sV) (d : Nat) (l1 : Option Value) (x : Nat) (st : List Value) (σ : sS), Rx E d 291 17 [some (.ref x), l1] st σ = Rx E d 291 18 [some (.ref x), l1] (.ref x :: st) σ) ∧
  (∀ (E : sV) (d : Nat) (l1 : Option Value) (st : List Value) (σ : sS), Rx E d 291 17 [some (.null), l1] st σ = Rx E d 291 18 [some (.null), l1] (.null :: st) σ) ∧
  (∀ (E : sV) (d : Nat) (l0 l1 : Option Value) (st : List Value) (σ : sS), Rx E d 291 18 [l0, l1] st σ = Rx E d 291 19 [l0, l1] (.int (0) :: st) σ) ∧
  (∀ (E : sV) (d : Nat) (l0 l1 : Option Value) (a : Nat) (st : List Value) (σ : sS), Rx E d 291 19 [l0, l1] (.int 0 :: .ref a :: st) σ = if E.1 ≤ a then (pf σ.1 a 9 1 (.int 0)).bind (fun h => Rx E d 291 22 [l0, l1] st (h, σ.2)) else none) ∧
  (∀ (E : sV) (d : Nat) (l0 l1 : Option Value) (a : Nat) (st : List Value) (σ : sS), Rx E d 291 19 [l0, l1] (.int 1 :: .ref a :: st) σ = if E.1 ≤ a then (pf σ.1 a 9 1 (.int 1)).bind (fun h => Rx E d 291 22 [l0, l1] st (h, σ.2)) else none) ∧
  (∀ (E : sV) (d : Nat) (l0 l1 : Option Value) (st : List Value) (σ : sS), Rx E d 291 22 [l0, l1] st σ = Rx E d 291 38 [l0, l1] st σ) ∧
  (∀ (E : sV) (d : Nat) (l1 : Option Value) (x : Nat) (st : List Value) (σ : sS), Rx E d 291 25 [some (.ref x), l1] st σ = Rx E d 291 26 [some (.ref x), l1] (.ref x :: st) σ) ∧
  (∀ (E : sV) (d : Nat) (l1 : Option Value) (st : List Value) (σ : sS), Rx E d 291 25 [some (.null), l1] st σ = Rx E d 291 26 [some (.null), l1] (.null :: st) σ) ∧
  (∀ (E : sV) (d : Nat) (l0 : Option Value) (x : Int32) (st : List Value) (σ : sS), Rx E d 291 26 [l0, some (.int x)] st σ = Rx E d 291 27 [l0, some (.int x)] (.int x :: st) σ) ∧
  (∀ (E : sV) (d : Nat) (l0 l1 : Option Value) (x : Nat) (a : Nat) (st : List Value) (σ : sS), Rx E d 291 30 [l0, l1] (.ref x :: .ref a :: st) σ = if E.1 ≤ a then (pf σ.1 a 9 0 (.ref x)).bind (fun h => Rx E d 291 33 [l0, l1] st (h, σ.2)) else none) ∧
  (∀ (E : sV) (d : Nat) (l0 l1 : Option Value) (a : Nat) (st : List Value) (σ : sS), Rx E d 291 30 [l0, l1] (.null :: .ref a :: st) σ = if E.1 ≤ a then (pf σ.1 a 9 0 (.null)).bind (fun h => Rx E d 291 33 [l0, l1] st (h, σ.2)) else none) ∧
  (∀ (E : sV) (d : Nat) (l1 : Option Value) (x : Nat) (st : List Value) (σ : sS), Rx E d 291 33 [some (.ref x), l1] st σ = Rx E d 291 34 [some (.ref x), l1] (.ref x :: st) σ) ∧
  (∀ (E : sV) (d : Nat) (l1 : Option Value) (st : List Value) (σ : sS), Rx E d 291 33 [some (.null), l1] st σ = Rx E d 291 34 [some (.null), l1] (.null :: st) σ) ∧
  (∀ (E : sV) (d : Nat) (l0 l1 : Option Value) (st : List Value) (σ : sS), Rx E d 291 34 [l0, l1] st σ = Rx E d 291 35 [l0, l1] (.int (1) :: st) σ) ∧
  (∀ (E : sV) (d : Nat) (l0 l1 : Option Value) (a : Nat) (st : List Value) (σ : sS), Rx E d 291 35 [l0, l1] (.int 0 :: .ref a :: st) σ = if E.1 ≤ a then (pf σ.1 a 9 1 (.int 0)).bind (fun h => Rx E d 291 38 [l0, l1] st (h, σ.2)) else none) ∧
  (∀ (E : sV) (d : Nat) (l0 l1 : Option Value) (a : Nat) (st : List Value) (σ : sS), Rx E d 291 35 [l0, l1] (.int 1 :: .ref a :: st) σ = if E.1 ≤ a then (pf σ.1 a 9 1 (.int 1)).bind (fun h => Rx E d 291 38 [l0, l1] st (h, σ.2)) else none) ∧
  (∀ (E : sV) (d : Nat) (l0 l1 : Option Value) (σ : sS), Rx E d 291 38 [l0, l1] [] σ = some (.inl none, σ)) := ⟨fun _ _ _ _ _ _ => Rx_of gMT_291 d291_0 rfl,
  fun _ _ _ _ _ => Rx_of gMT_291 d291_0 rfl,
  fun _ _ _ _ _ _ _ => Rx_oinit gMT_291 d291_1 rfl rfl,
  fun _ _ _ _ _ _ => Rx_gets gMT_291 d291_4 rfl rfl,
  fun _ _ _ _ _ _ _ => Rx_if gMT_291 d291_7 rfl rfl (by decide),
  fun _ _ _ _ _ _ => Rx_of gMT_291 d291_10 rfl,
  fun _ _ _ _ _ => Rx_of gMT_291 d291_10 rfl,
  fun _ _ _ _ _ _ => Rx_of gMT_291 d291_11 rfl,
  fun _ _ _ _ _ _ _ => Rx_newa gMT_291 d291_12 rfl rfl rfl,
  fun _ _ _ _ _ _ _ _ => Rx_putf gMT_291 d291_14 rfl rfl (pfOk_of rfl rfl (by decide) (by decide) rfl rfl (Or.inl rfl)),
  fun _ _ _ _ _ _ _ => Rx_putf gMT_291 d291_14 rfl rfl (pfOk_of rfl rfl (by decide) (by decide) rfl rfl (Or.inl rfl)),
  fun _ _ _ _ _ _ => Rx_of gMT_291 d291_17 rfl,
  fun _ _ _ _ _ => Rx_of gMT_291 d291_17 rfl,
  fun _ _ _ _ _ _ => Rx_of gMT_291 d291_18 rfl,
  fun _ _ _ _ _ _ _ => Rx_putf gMT_291 d291_19 rfl rfl (pfOk_of rfl rfl (by decide) (by decide) rfl rfl (Or.inl rfl)),
  fun _ _ _ _ _ _ _ => Rx_putf gMT_291 d291_19 rfl rfl (pfOk_of rfl rfl (by decide) (by decide) rfl rfl (Or.inl rfl)),
  fun _ _ _ _ _ _ => Rx_goto gMT_291 d291_22 rfl (by decide),
  fun _ _ _ _ _ _ => Rx_of gMT_291 d291_25 rfl,
  fun _ _ _ _ _ => Rx_of gMT_291 d291_25 rfl,
  fun _ _ _ _ _ _ => Rx_of gMT_291 d291_26 rfl,
  fun _ _ _ _ _ _ _ _ => Rx_putf gMT_291 d291_30 rfl rfl (pfOk_of rfl rfl (by decide) (by decide) rfl rfl (Or.inl rfl)),
  fun _ _ _ _ _ _ _ => Rx_putf gMT_291 d291_30 rfl rfl (pfOk_of rfl rfl (by decide) (by decide) rfl rfl (Or.inl rfl)),
  fun _ _ _ _ _ _ => Rx_of gMT_291 d291_33 rfl,
  fun _ _ _ _ _ => Rx_of gMT_291 d291_33 rfl,
  fun _ _ _ _ _ _ => Rx_of gMT_291 d291_34 rfl,
  fun _ _ _ _ _ _ _ => Rx_putf gMT_291 d291_35 rfl rfl (pfOk_of rfl rfl (by decide) (by decide) rfl rfl (Or.inl rfl)),
  fun _ _ _ _ _ _ _ => Rx_putf gMT_291 d291_35 rfl rfl (pfOk_of rfl rfl (by decide) (by decide) rfl rfl (Or.inl rfl)),
  fun _ _ _ _ _ => Rx_vret gMT_291 d291_38 rfl rfl⟩
-- QASB_init: QASB_init_0
theorem NASB_init (E : sV) (d : Nat) (a0 : Nat) (a1 : Int32) (σ : sS) : Mt E (d + 1) 291 [.ref a0, .int a1] σ = Rx E d 291 0 [some (.ref a0), some (.int a1)] [] σ := Mt_succ gMT_291 (Nat.le_of_ble_eq_true rfl)
theorem QASB_setLength_0 : (∀ (E : sV) (d : Nat) (l0 : Option Value) (x : Int32) (st : List Value) (σ : sS), Rx E d 292 0 [l0, some (.int x)] st σ = Rx E d 292 1 [l0, some (.int x)] (.int x :: st) σ) ∧
  (∀ (E : sV) (d : Nat) (l0 l1 : Option Value) (x : Int32) (st : List Value) (σ : sS), Rx E d 292 1 [l0, l1] (.int x :: st) σ = if 0 ≤ x then Rx E d 292 13 [l0, l1] st σ else Rx E d 292 4 [l0, l1] st σ) ∧
  (∀ (E : sV) (d : Nat) (l0 l1 : Option Value) (x : Nat) (st : List Value) (σ : sS), Rx E d 292 7 [l0, l1] (.ref x :: st) σ = Rx E d 292 8 [l0, l1] (.ref x :: .ref x :: st) σ) ∧
  (∀ (E : sV) (d : Nat) (l0 l1 : Option Value) (x : Int32) (st : List Value) (σ : sS), Rx E d 292 7 [l0, l1] (.int x :: st) σ = Rx E d 292 8 [l0, l1] (.int x :: .int x :: st) σ) ∧
  (∀ (E : sV) (d : Nat) (l0 : Option Value) (x : Int32) (st : List Value) (σ : sS), Rx E d 292 8 [l0, some (.int x)] st σ = Rx E d 292 9 [l0, some (.int x)] (.int x :: st) σ) ∧
  (∀ (E : sV) (d : Nat) (l1 : Option Value) (x : Nat) (st : List Value) (σ : sS), Rx E d 292 13 [some (.ref x), l1] st σ = Rx E d 292 14 [some (.ref x), l1] (.ref x :: st) σ) ∧
  (∀ (E : sV) (d : Nat) (l1 : Option Value) (st : List Value) (σ : sS), Rx E d 292 13 [some (.null), l1] st σ = Rx E d 292 14 [some (.null), l1] (.null :: st) σ) ∧
  (∀ (E : sV) (d : Nat) (l0 : Option Value) (x : Int32) (st : List Value) (σ : sS), Rx E d 292 14 [l0, some (.int x)] st σ = Rx E d 292 15 [l0, some (.int x)] (.int x :: st) σ) ∧
  (∀ (E : sV) (d : Nat) (l0 l1 : Option Value) (v1 : Value) (b : Nat) (st : List Value) (σ : sS), Rx E d 292 15 [l0, l1] (v1 :: .ref b :: st) σ = if cats st ≤ 8 ∧ isOb σ.1 b 9 = true then callR (Mt E d 294 [.ref b, v1] σ) (fun v σ => Rx E d 292 18 [l0, l1] (v.toList ++ st) σ) else none) ∧
  (∀ (E : sV) (d : Nat) (l1 : Option Value) (x : Nat) (st : List Value) (σ : sS), Rx E d 292 18 [some (.ref x), l1] st σ = Rx E d 292 19 [some (.ref x), l1] (.ref x :: st) σ) ∧
  (∀ (E : sV) (d : Nat) (l1 : Option Value) (st : List Value) (σ : sS), Rx E d 292 18 [some (.null), l1] st σ = Rx E d 292 19 [some (.null), l1] (.null :: st) σ) ∧
  (∀ (E : sV) (d : Nat) (l0 l1 : Option Value) (a : Nat) (st : List Value) (σ : sS), Rx E d 292 19 [l0, l1] (.ref a :: st) σ = (gf σ.1 a 9 3).bind (fun v => Rx E d 292 22 [l0, l1] (v :: st) σ)) ∧
  (∀ (E : sV) (d : Nat) (l0 : Option Value) (x : Int32) (st : List Value) (σ : sS), Rx E d 292 22 [l0, some (.int x)] st σ = Rx E d 292 23 [l0, some (.int x)] (.int x :: st) σ) ∧
  (∀ (E : sV) (d : Nat) (l0 l1 : Option Value) (x y : Int32) (st : List Value) (σ : sS), Rx E d 292 23 [l0, l1] (.int y :: .int x :: st) σ = if y ≤ x then Rx E d 292 63 [l0, l1] st σ else Rx E d 292 26 [l0, l1] st σ) ∧
  (∀ (E : sV) (d : Nat) (l1 : Option Value) (x : Nat) (st : List Value) (σ : sS), Rx E d 292 26 [some (.ref x), l1] st σ = Rx E d 292 27 [some (.ref x), l1] (.ref x :: st) σ) ∧
  (∀ (E : sV) (d : Nat) (l1 : Option Value) (st : List Value) (σ : sS), Rx E d 292 26 [some (.null), l1] st σ = Rx E d 292 27 [some (.null), l1] (.null :: st) σ) ∧
  (∀ (E : sV) (d : Nat) (l0 l1 : Option Value) (b : Nat) (st : List Value) (σ : sS), Rx E d 292 27 [l0, l1] (.ref b :: st) σ = if cats st ≤ 8 ∧ isOb σ.1 b 9 = true then callR (Mt E d 296 [.ref b] σ) (fun v σ => Rx E d 292 30 [l0, l1] (v.toList ++ st) σ) else none) ∧
  (∀ (E : sV) (d : Nat) (l0 l1 : Option Value) (x : Int32) (st : List Value) (σ : sS), Rx E d 292 30 [l0, l1] (.int x :: st) σ = if x = 0 then Rx E d 292 48 [l0, l1] st σ else Rx E d 292 33 [l0, l1] st σ) ∧
  (∀ (E : sV) (d : Nat) (l1 : Option Value) (x : Nat) (st : List Value) (σ : sS), Rx E d 292 33 [some (.ref x), l1] st σ = Rx E d 292 34 [some (.ref x), l1] (.ref x :: st) σ) ∧
  (∀ (E : sV) (d : Nat) (l1 : Option Value) (st : List Value) (σ : sS), Rx E d 292 33 [some (.null), l1] st σ = Rx E d 292 34 [some (.null), l1] (.null :: st) σ) ∧
  (∀ (E : sV) (d : Nat) (l0 l1 : Option Value) (a : Nat) (st : List Value) (σ : sS), Rx E d 292 34 [l0, l1] (.ref a :: st) σ = (gf σ.1 a 9 0).bind (fun v => Rx E d 292 37 [l0, l1] (v :: st) σ)) ∧
  (∀ (E : sV) (d : Nat) (l1 : Option Value) (x : Nat) (st : List Value) (σ : sS), Rx E d 292 37 [some (.ref x), l1] st σ = Rx E d 292 38 [some (.ref x), l1] (.ref x :: st) σ) ∧
  (∀ (E : sV) (d : Nat) (l1 : Option Value) (st : List Value) (σ : sS), Rx E d 292 37 [some (.null), l1] st σ = Rx E d 292 38 [some (.null), l1] (.null :: st) σ) ∧
  (∀ (E : sV) (d : Nat) (l0 l1 : Option Value) (a : Nat) (st : List Value) (σ : sS), Rx E d 292 38 [l0, l1] (.ref a :: st) σ = (gf σ.1 a 9 3).bind (fun v => Rx E d 292 41 [l0, l1] (v :: st) σ)) ∧
  (∀ (E : sV) (d : Nat) (l0 : Option Value) (x : Int32) (st : List Value) (σ : sS), Rx E d 292 41 [l0, some (.int x)] st σ = Rx E d 292 42 [l0, some (.int x)] (.int x :: st) σ) ∧
  (∀ (E : sV) (d : Nat) (l0 l1 : Option Value) (st : List Value) (σ : sS), Rx E d 292 45 [l0, l1] st σ = Rx E d 292 76 [l0, l1] st σ) ∧
  (∀ (E : sV) (d : Nat) (l1 : Option Value) (x : Nat) (st : List Value) (σ : sS), Rx E d 292 48 [some (.ref x), l1] st σ = Rx E d 292 49 [some (.ref x), l1] (.ref x :: st) σ) ∧
  (∀ (E : sV) (d : Nat) (l1 : Option Value) (st : List Value) (σ : sS), Rx E d 292 48 [some (.null), l1] st σ = Rx E d 292 49 [some (.null), l1] (.null :: st) σ) ∧
  (∀ (E : sV) (d : Nat) (l0 l1 : Option Value) (a : Nat) (st : List Value) (σ : sS), Rx E d 292 49 [l0, l1] (.ref a :: st) σ = (gf σ.1 a 9 0).bind (fun v => Rx E d 292 52 [l0, l1] (v :: st) σ)) ∧
  (∀ (E : sV) (d : Nat) (l1 : Option Value) (x : Nat) (st : List Value) (σ : sS), Rx E d 292 52 [some (.ref x), l1] st σ = Rx E d 292 53 [some (.ref x), l1] (.ref x :: st) σ) := ⟨fun _ _ _ _ _ _ => Rx_of gMT_292 d292_0 rfl,
  fun _ _ _ _ _ _ _ => Rx_if gMT_292 d292_1 rfl rfl (by decide),
  fun _ _ _ _ _ _ _ => Rx_of gMT_292 d292_7 rfl,
  fun _ _ _ _ _ _ _ => Rx_of gMT_292 d292_7 rfl,
  fun _ _ _ _ _ _ => Rx_of gMT_292 d292_8 rfl,
  fun _ _ _ _ _ _ => Rx_of gMT_292 d292_13 rfl,
  fun _ _ _ _ _ => Rx_of gMT_292 d292_13 rfl,
  fun _ _ _ _ _ _ => Rx_of gMT_292 d292_14 rfl,
  fun _ _ _ _ _ _ _ _ => Rx_callU gMT_292 d292_15 rfl rfl rfl rfl,
  fun _ _ _ _ _ _ => Rx_of gMT_292 d292_18 rfl,
  fun _ _ _ _ _ => Rx_of gMT_292 d292_18 rfl,
  fun _ _ _ _ _ _ _ => Rx_getf gMT_292 d292_19 rfl rfl,
  fun _ _ _ _ _ _ => Rx_of gMT_292 d292_22 rfl,
  fun _ _ _ _ _ _ _ _ => Rx_icmp gMT_292 d292_23 rfl rfl (by decide),
  fun _ _ _ _ _ _ => Rx_of gMT_292 d292_26 rfl,
  fun _ _ _ _ _ => Rx_of gMT_292 d292_26 rfl,
  fun _ _ _ _ _ _ _ => Rx_callU gMT_292 d292_27 rfl rfl rfl rfl,
  fun _ _ _ _ _ _ _ => Rx_if gMT_292 d292_30 rfl rfl (by decide),
  fun _ _ _ _ _ _ => Rx_of gMT_292 d292_33 rfl,
  fun _ _ _ _ _ => Rx_of gMT_292 d292_33 rfl,
  fun _ _ _ _ _ _ _ => Rx_getf gMT_292 d292_34 rfl rfl,
  fun _ _ _ _ _ _ => Rx_of gMT_292 d292_37 rfl,
  fun _ _ _ _ _ => Rx_of gMT_292 d292_37 rfl,
  fun _ _ _ _ _ _ _ => Rx_getf gMT_292 d292_38 rfl rfl,
  fun _ _ _ _ _ _ => Rx_of gMT_292 d292_41 rfl,
  fun _ _ _ _ _ _ => Rx_goto gMT_292 d292_45 rfl (by decide),
  fun _ _ _ _ _ _ => Rx_of gMT_292 d292_48 rfl,
  fun _ _ _ _ _ => Rx_of gMT_292 d292_48 rfl,
  fun _ _ _ _ _ _ _ => Rx_getf gMT_292 d292_49 rfl rfl,
  fun _ _ _ _ _ _ => Rx_of gMT_292 d292_52 rfl⟩
theorem QASB_setLength_1 : (∀ (E : sV) (d : Nat) (l1 : Option Value) (st : List Value) (σ : sS), Rx E d 292 52 [some (.null), l1] st σ = Rx E d 292 53 [some (.null), l1] (.null :: st) σ) ∧
  (∀ (E : sV) (d : Nat) (l0 l1 : Option Value) (a : Nat) (st : List Value) (σ : sS), Rx E d 292 53 [l0, l1] (.ref a :: st) σ = (gf σ.1 a 9 3).bind (fun v => Rx E d 292 56 [l0, l1] (v :: st) σ)) ∧
  (∀ (E : sV) (d : Nat) (l0 : Option Value) (x : Int32) (st : List Value) (σ : sS), Rx E d 292 56 [l0, some (.int x)] st σ = Rx E d 292 57 [l0, some (.int x)] (.int x :: st) σ) ∧
  (∀ (E : sV) (d : Nat) (l0 l1 : Option Value) (st : List Value) (σ : sS), Rx E d 292 60 [l0, l1] st σ = Rx E d 292 76 [l0, l1] st σ) ∧
  (∀ (E : sV) (d : Nat) (l1 : Option Value) (x : Nat) (st : List Value) (σ : sS), Rx E d 292 63 [some (.ref x), l1] st σ = Rx E d 292 64 [some (.ref x), l1] (.ref x :: st) σ) ∧
  (∀ (E : sV) (d : Nat) (l1 : Option Value) (st : List Value) (σ : sS), Rx E d 292 63 [some (.null), l1] st σ = Rx E d 292 64 [some (.null), l1] (.null :: st) σ) ∧
  (∀ (E : sV) (d : Nat) (l0 l1 : Option Value) (a : Nat) (st : List Value) (σ : sS), Rx E d 292 64 [l0, l1] (.ref a :: st) σ = (gf σ.1 a 9 3).bind (fun v => Rx E d 292 67 [l0, l1] (v :: st) σ)) ∧
  (∀ (E : sV) (d : Nat) (l0 : Option Value) (x : Int32) (st : List Value) (σ : sS), Rx E d 292 67 [l0, some (.int x)] st σ = Rx E d 292 68 [l0, some (.int x)] (.int x :: st) σ) ∧
  (∀ (E : sV) (d : Nat) (l0 l1 : Option Value) (x y : Int32) (st : List Value) (σ : sS), Rx E d 292 68 [l0, l1] (.int y :: .int x :: st) σ = if x ≤ y then Rx E d 292 76 [l0, l1] st σ else Rx E d 292 71 [l0, l1] st σ) ∧
  (∀ (E : sV) (d : Nat) (l1 : Option Value) (x : Nat) (st : List Value) (σ : sS), Rx E d 292 71 [some (.ref x), l1] st σ = Rx E d 292 72 [some (.ref x), l1] (.ref x :: st) σ) ∧
  (∀ (E : sV) (d : Nat) (l1 : Option Value) (st : List Value) (σ : sS), Rx E d 292 71 [some (.null), l1] st σ = Rx E d 292 72 [some (.null), l1] (.null :: st) σ) ∧
  (∀ (E : sV) (d : Nat) (l0 l1 : Option Value) (st : List Value) (σ : sS), Rx E d 292 72 [l0, l1] st σ = Rx E d 292 73 [l0, l1] (.int (1) :: st) σ) ∧
  (∀ (E : sV) (d : Nat) (l0 l1 : Option Value) (a : Nat) (st : List Value) (σ : sS), Rx E d 292 73 [l0, l1] (.int 0 :: .ref a :: st) σ = if E.1 ≤ a then (pf σ.1 a 9 2 (.int 0)).bind (fun h => Rx E d 292 76 [l0, l1] st (h, σ.2)) else none) ∧
  (∀ (E : sV) (d : Nat) (l0 l1 : Option Value) (a : Nat) (st : List Value) (σ : sS), Rx E d 292 73 [l0, l1] (.int 1 :: .ref a :: st) σ = if E.1 ≤ a then (pf σ.1 a 9 2 (.int 1)).bind (fun h => Rx E d 292 76 [l0, l1] st (h, σ.2)) else none) ∧
  (∀ (E : sV) (d : Nat) (l0 l1 : Option Value) (x : Int32) (a : Nat) (st : List Value) (σ : sS) (h : x = 0 ∨ x = 1), Rx E d 292 73 [l0, l1] (.int x :: .ref a :: st) σ = if E.1 ≤ a then (pf σ.1 a 9 2 (.int x)).bind (fun h => Rx E d 292 76 [l0, l1] st (h, σ.2)) else none) ∧
  (∀ (E : sV) (d : Nat) (l1 : Option Value) (x : Nat) (st : List Value) (σ : sS), Rx E d 292 76 [some (.ref x), l1] st σ = Rx E d 292 77 [some (.ref x), l1] (.ref x :: st) σ) ∧
  (∀ (E : sV) (d : Nat) (l1 : Option Value) (st : List Value) (σ : sS), Rx E d 292 76 [some (.null), l1] st σ = Rx E d 292 77 [some (.null), l1] (.null :: st) σ) ∧
  (∀ (E : sV) (d : Nat) (l0 : Option Value) (x : Int32) (st : List Value) (σ : sS), Rx E d 292 77 [l0, some (.int x)] st σ = Rx E d 292 78 [l0, some (.int x)] (.int x :: st) σ) ∧
  (∀ (E : sV) (d : Nat) (l0 l1 : Option Value) (x : Int32) (a : Nat) (st : List Value) (σ : sS), Rx E d 292 78 [l0, l1] (.int x :: .ref a :: st) σ = if E.1 ≤ a then (pf σ.1 a 9 3 (.int x)).bind (fun h => Rx E d 292 81 [l0, l1] st (h, σ.2)) else none) ∧
  (∀ (E : sV) (d : Nat) (l0 l1 : Option Value) (σ : sS), Rx E d 292 81 [l0, l1] [] σ = some (.inl none, σ)) := ⟨fun _ _ _ _ _ => Rx_of gMT_292 d292_52 rfl,
  fun _ _ _ _ _ _ _ => Rx_getf gMT_292 d292_53 rfl rfl,
  fun _ _ _ _ _ _ => Rx_of gMT_292 d292_56 rfl,
  fun _ _ _ _ _ _ => Rx_goto gMT_292 d292_60 rfl (by decide),
  fun _ _ _ _ _ _ => Rx_of gMT_292 d292_63 rfl,
  fun _ _ _ _ _ => Rx_of gMT_292 d292_63 rfl,
  fun _ _ _ _ _ _ _ => Rx_getf gMT_292 d292_64 rfl rfl,
  fun _ _ _ _ _ _ => Rx_of gMT_292 d292_67 rfl,
  fun _ _ _ _ _ _ _ _ => Rx_icmp gMT_292 d292_68 rfl rfl (by decide),
  fun _ _ _ _ _ _ => Rx_of gMT_292 d292_71 rfl,
  fun _ _ _ _ _ => Rx_of gMT_292 d292_71 rfl,
  fun _ _ _ _ _ _ => Rx_of gMT_292 d292_72 rfl,
  fun _ _ _ _ _ _ _ => Rx_putf gMT_292 d292_73 rfl rfl (pfOk_of rfl rfl (by decide) (by decide) rfl rfl (Or.inl rfl)),
  fun _ _ _ _ _ _ _ => Rx_putf gMT_292 d292_73 rfl rfl (pfOk_of rfl rfl (by decide) (by decide) rfl rfl (Or.inl rfl)),
  fun _ _ _ _ _ _ _ _ h => Rx_putf gMT_292 d292_73 rfl rfl (pfOk_of rfl rfl (by decide) (by decide) (by rcases h with h | h <;> subst h <;> rfl) (by rcases h with h | h <;> subst h <;> rfl) (Or.inl rfl)),
  fun _ _ _ _ _ _ => Rx_of gMT_292 d292_76 rfl,
  fun _ _ _ _ _ => Rx_of gMT_292 d292_76 rfl,
  fun _ _ _ _ _ _ => Rx_of gMT_292 d292_77 rfl,
  fun _ _ _ _ _ _ _ _ => Rx_putf gMT_292 d292_78 rfl rfl (pfOk_of rfl rfl (by decide) (by decide) rfl rfl (Or.inl rfl)),
  fun _ _ _ _ _ => Rx_vret gMT_292 d292_81 rfl rfl⟩
-- QASB_setLength: QASB_setLength_0, QASB_setLength_1
theorem NASB_setLength (E : sV) (d : Nat) (a0 : Nat) (a1 : Int32) (σ : sS) : Mt E (d + 1) 292 [.ref a0, .int a1] σ = Rx E d 292 0 [some (.ref a0), some (.int a1)] [] σ := Mt_succ gMT_292 (Nat.le_of_ble_eq_true rfl)
theorem QASB_append_0 : (∀ (E : sV) (d : Nat) (l0 : Option Value) (l2 : Option Value) (x : Nat) (st : List Value) (σ : sS), Rx E d 293 0 [l0, some (.ref x), l2] st σ = Rx E d 293 1 [l0, some (.ref x), l2] (.ref x :: st) σ) ∧
  (∀ (E : sV) (d : Nat) (l0 : Option Value) (l2 : Option Value) (st : List Value) (σ : sS), Rx E d 293 0 [l0, some (.null), l2] st σ = Rx E d 293 1 [l0, some (.null), l2] (.null :: st) σ) ∧
  (∀ (E : sV) (d : Nat) (l0 l1 l2 : Option Value) (x : Nat) (st : List Value) (σ : sS), Rx E d 293 1 [l0, l1, l2] (.ref x :: st) σ = Rx E d 293 9 [l0, l1, l2] st σ) ∧
  (∀ (E : sV) (d : Nat) (l0 l1 l2 : Option Value) (st : List Value) (σ : sS), Rx E d 293 1 [l0, l1, l2] (.null :: st) σ = Rx E d 293 4 [l0, l1, l2] st σ) ∧
  (∀ (E : sV) (d : Nat) (l1 : Option Value) (l2 : Option Value) (x : Nat) (st : List Value) (σ : sS), Rx E d 293 4 [some (.ref x), l1, l2] st σ = Rx E d 293 5 [some (.ref x), l1, l2] (.ref x :: st) σ) ∧
  (∀ (E : sV) (d : Nat) (l1 : Option Value) (l2 : Option Value) (st : List Value) (σ : sS), Rx E d 293 4 [some (.null), l1, l2] st σ = Rx E d 293 5 [some (.null), l1, l2] (.null :: st) σ) ∧
  (∀ (E : sV) (d : Nat) (l0 l1 l2 : Option Value) (a : Nat) (σ : sS), Rx E d 293 8 [l0, l1, l2] [.ref a] σ = some (.inl (some (.ref a)), σ)) ∧
  (∀ (E : sV) (d : Nat) (l0 l1 l2 : Option Value) (σ : sS), Rx E d 293 8 [l0, l1, l2] [.null] σ = some (.inl (some .null), σ)) ∧
  (∀ (E : sV) (d : Nat) (l0 : Option Value) (l2 : Option Value) (x : Nat) (st : List Value) (σ : sS), Rx E d 293 9 [l0, some (.ref x), l2] st σ = Rx E d 293 10 [l0, some (.ref x), l2] (.ref x :: st) σ) ∧
  (∀ (E : sV) (d : Nat) (l0 : Option Value) (l2 : Option Value) (st : List Value) (σ : sS), Rx E d 293 9 [l0, some (.null), l2] st σ = Rx E d 293 10 [l0, some (.null), l2] (.null :: st) σ) ∧
  (∀ (E : sV) (d : Nat) (l0 l1 l2 : Option Value) (b : Nat) (st : List Value) (σ : sS), Rx E d 293 10 [l0, l1, l2] (.ref b :: st) σ = if cats st ≤ 8 ∧ isOb σ.1 b 10 = true then callK (Mt E d 310 [.ref b] σ) (fun v σ => Rx E d 293 13 [l0, l1, l2] (v.toList ++ st) σ) else none) ∧
  (∀ (E : sV) (d : Nat) (l0 l1 l2 : Option Value) (x : Int32) (st : List Value) (σ : sS), Rx E d 293 13 [l0, l1, l2] (.int x :: st) σ = Rx E d 293 14 [l0, ldrop l1, some (.int x)] st σ) ∧
  (∀ (E : sV) (d : Nat) (l1 : Option Value) (l2 : Option Value) (x : Nat) (st : List Value) (σ : sS), Rx E d 293 14 [some (.ref x), l1, l2] st σ = Rx E d 293 15 [some (.ref x), l1, l2] (.ref x :: st) σ) ∧
  (∀ (E : sV) (d : Nat) (l1 : Option Value) (l2 : Option Value) (st : List Value) (σ : sS), Rx E d 293 14 [some (.null), l1, l2] st σ = Rx E d 293 15 [some (.null), l1, l2] (.null :: st) σ) ∧
  (∀ (E : sV) (d : Nat) (l1 : Option Value) (l2 : Option Value) (x : Nat) (st : List Value) (σ : sS), Rx E d 293 15 [some (.ref x), l1, l2] st σ = Rx E d 293 16 [some (.ref x), l1, l2] (.ref x :: st) σ) ∧
  (∀ (E : sV) (d : Nat) (l1 : Option Value) (l2 : Option Value) (st : List Value) (σ : sS), Rx E d 293 15 [some (.null), l1, l2] st σ = Rx E d 293 16 [some (.null), l1, l2] (.null :: st) σ) ∧
  (∀ (E : sV) (d : Nat) (l0 l1 l2 : Option Value) (a : Nat) (st : List Value) (σ : sS), Rx E d 293 16 [l0, l1, l2] (.ref a :: st) σ = (gf σ.1 a 9 3).bind (fun v => Rx E d 293 19 [l0, l1, l2] (v :: st) σ)) ∧
  (∀ (E : sV) (d : Nat) (l0 : Option Value) (l1 : Option Value) (x : Int32) (st : List Value) (σ : sS), Rx E d 293 19 [l0, l1, some (.int x)] st σ = Rx E d 293 20 [l0, l1, some (.int x)] (.int x :: st) σ) ∧
  (∀ (E : sV) (d : Nat) (l0 l1 l2 : Option Value) (x y : Int32) (st : List Value) (σ : sS), Rx E d 293 20 [l0, l1, l2] (.int y :: .int x :: st) σ = Rx E d 293 21 [l0, l1, l2] (.int (x + y) :: st) σ) ∧
  (∀ (E : sV) (d : Nat) (l0 l1 l2 : Option Value) (v1 : Value) (b : Nat) (st : List Value) (σ : sS), Rx E d 293 21 [l0, l1, l2] (v1 :: .ref b :: st) σ = if cats st ≤ 8 ∧ isOb σ.1 b 9 = true then callR (Mt E d 294 [.ref b, v1] σ) (fun v σ => Rx E d 293 24 [l0, l1, l2] (v.toList ++ st) σ) else none) ∧
  (∀ (E : sV) (d : Nat) (l1 : Option Value) (l2 : Option Value) (x : Nat) (st : List Value) (σ : sS), Rx E d 293 24 [some (.ref x), l1, l2] st σ = Rx E d 293 25 [some (.ref x), l1, l2] (.ref x :: st) σ) ∧
  (∀ (E : sV) (d : Nat) (l1 : Option Value) (l2 : Option Value) (st : List Value) (σ : sS), Rx E d 293 24 [some (.null), l1, l2] st σ = Rx E d 293 25 [some (.null), l1, l2] (.null :: st) σ) ∧
  (∀ (E : sV) (d : Nat) (l1 : Option Value) (l2 : Option Value) (x : Nat) (st : List Value) (σ : sS), Rx E d 293 25 [some (.ref x), l1, l2] st σ = Rx E d 293 26 [some (.ref x), l1, l2] (.ref x :: st) σ) ∧
  (∀ (E : sV) (d : Nat) (l1 : Option Value) (l2 : Option Value) (st : List Value) (σ : sS), Rx E d 293 25 [some (.null), l1, l2] st σ = Rx E d 293 26 [some (.null), l1, l2] (.null :: st) σ) ∧
  (∀ (E : sV) (d : Nat) (l0 l1 l2 : Option Value) (a : Nat) (st : List Value) (σ : sS), Rx E d 293 26 [l0, l1, l2] (.ref a :: st) σ = (gf σ.1 a 9 3).bind (fun v => Rx E d 293 29 [l0, l1, l2] (v :: st) σ)) ∧
  (∀ (E : sV) (d : Nat) (l0 : Option Value) (l2 : Option Value) (x : Nat) (st : List Value) (σ : sS), Rx E d 293 29 [l0, some (.ref x), l2] st σ = Rx E d 293 30 [l0, some (.ref x), l2] (.ref x :: st) σ) ∧
  (∀ (E : sV) (d : Nat) (l0 : Option Value) (l2 : Option Value) (st : List Value) (σ : sS), Rx E d 293 29 [l0, some (.null), l2] st σ = Rx E d 293 30 [l0, some (.null), l2] (.null :: st) σ) ∧
  (∀ (E : sV) (d : Nat) (l0 l1 l2 : Option Value) (v1 v2 : Value) (b : Nat) (st : List Value) (σ : sS), Rx E d 293 30 [l0, l1, l2] (v2 :: v1 :: .ref b :: st) σ = if cats st ≤ 8 ∧ isOb σ.1 b 9 = true then callR (Mt E d 297 [.ref b, v1, v2] σ) (fun v σ => Rx E d 293 33 [l0, l1, l2] (v.toList ++ st) σ) else none) ∧
  (∀ (E : sV) (d : Nat) (l1 : Option Value) (l2 : Option Value) (x : Nat) (st : List Value) (σ : sS), Rx E d 293 33 [some (.ref x), l1, l2] st σ = Rx E d 293 34 [some (.ref x), l1, l2] (.ref x :: st) σ) ∧
  (∀ (E : sV) (d : Nat) (l1 : Option Value) (l2 : Option Value) (st : List Value) (σ : sS), Rx E d 293 33 [some (.null), l1, l2] st σ = Rx E d 293 34 [some (.null), l1, l2] (.null :: st) σ) := ⟨fun _ _ _ _ _ _ _ => Rx_of gMT_293 d293_0 rfl,
  fun _ _ _ _ _ _ => Rx_of gMT_293 d293_0 rfl,
  fun _ _ _ _ _ _ _ _ => Rx_ifnonnullR gMT_293 d293_1 rfl (by decide),
  fun _ _ _ _ _ _ _ => Rx_ifnonnullN gMT_293 d293_1 rfl,
  fun _ _ _ _ _ _ _ => Rx_of gMT_293 d293_4 rfl,
  fun _ _ _ _ _ _ => Rx_of gMT_293 d293_4 rfl,
  fun _ _ _ _ _ _ _ => Rx_aret gMT_293 d293_8 rfl (Or.inl ⟨_, rfl⟩),
  fun _ _ _ _ _ _ => Rx_aretN gMT_293 d293_8 rfl (Or.inl ⟨_, rfl⟩),
  fun _ _ _ _ _ _ _ => Rx_of gMT_293 d293_9 rfl,
  fun _ _ _ _ _ _ => Rx_of gMT_293 d293_9 rfl,
  fun _ _ _ _ _ _ _ _ => Rx_callV gMT_293 d293_10 rfl rfl rfl rfl rfl,
  fun _ _ _ _ _ _ _ _ => Rx_of gMT_293 d293_13 rfl,
  fun _ _ _ _ _ _ _ => Rx_of gMT_293 d293_14 rfl,
  fun _ _ _ _ _ _ => Rx_of gMT_293 d293_14 rfl,
  fun _ _ _ _ _ _ _ => Rx_of gMT_293 d293_15 rfl,
  fun _ _ _ _ _ _ => Rx_of gMT_293 d293_15 rfl,
  fun _ _ _ _ _ _ _ _ => Rx_getf gMT_293 d293_16 rfl rfl,
  fun _ _ _ _ _ _ _ => Rx_of gMT_293 d293_19 rfl,
  fun _ _ _ _ _ _ _ _ _ => Rx_of gMT_293 d293_20 rfl,
  fun _ _ _ _ _ _ _ _ _ => Rx_callU gMT_293 d293_21 rfl rfl rfl rfl,
  fun _ _ _ _ _ _ _ => Rx_of gMT_293 d293_24 rfl,
  fun _ _ _ _ _ _ => Rx_of gMT_293 d293_24 rfl,
  fun _ _ _ _ _ _ _ => Rx_of gMT_293 d293_25 rfl,
  fun _ _ _ _ _ _ => Rx_of gMT_293 d293_25 rfl,
  fun _ _ _ _ _ _ _ _ => Rx_getf gMT_293 d293_26 rfl rfl,
  fun _ _ _ _ _ _ _ => Rx_of gMT_293 d293_29 rfl,
  fun _ _ _ _ _ _ => Rx_of gMT_293 d293_29 rfl,
  fun _ _ _ _ _ _ _ _ _ _ => Rx_callU gMT_293 d293_30 rfl rfl rfl rfl,
  fun _ _ _ _ _ _ _ => Rx_of gMT_293 d293_33 rfl,
  fun _ _ _ _ _ _ => Rx_of gMT_293 d293_33 rfl⟩
theorem QASB_append_1 : (∀ (E : sV) (d : Nat) (l0 l1 l2 : Option Value) (x : Nat) (st : List Value) (σ : sS), Rx E d 293 34 [l0, l1, l2] (.ref x :: st) σ = Rx E d 293 35 [l0, l1, l2] (.ref x :: .ref x :: st) σ) ∧
  (∀ (E : sV) (d : Nat) (l0 l1 l2 : Option Value) (x : Int32) (st : List Value) (σ : sS), Rx E d 293 34 [l0, l1, l2] (.int x :: st) σ = Rx E d 293 35 [l0, l1, l2] (.int x :: .int x :: st) σ) ∧
  (∀ (E : sV) (d : Nat) (l0 l1 l2 : Option Value) (a : Nat) (st : List Value) (σ : sS), Rx E d 293 35 [l0, l1, l2] (.ref a :: st) σ = (gf σ.1 a 9 3).bind (fun v => Rx E d 293 38 [l0, l1, l2] (v :: st) σ)) ∧
  (∀ (E : sV) (d : Nat) (l0 : Option Value) (l1 : Option Value) (x : Int32) (st : List Value) (σ : sS), Rx E d 293 38 [l0, l1, some (.int x)] st σ = Rx E d 293 39 [l0, l1, some (.int x)] (.int x :: st) σ) ∧
  (∀ (E : sV) (d : Nat) (l0 l1 l2 : Option Value) (x y : Int32) (st : List Value) (σ : sS), Rx E d 293 39 [l0, l1, l2] (.int y :: .int x :: st) σ = Rx E d 293 40 [l0, l1, l2] (.int (x + y) :: st) σ) ∧
  (∀ (E : sV) (d : Nat) (l0 l1 l2 : Option Value) (x : Int32) (a : Nat) (st : List Value) (σ : sS), Rx E d 293 40 [l0, l1, l2] (.int x :: .ref a :: st) σ = if E.1 ≤ a then (pf σ.1 a 9 3 (.int x)).bind (fun h => Rx E d 293 43 [l0, l1, l2] st (h, σ.2)) else none) ∧
  (∀ (E : sV) (d : Nat) (l1 : Option Value) (l2 : Option Value) (x : Nat) (st : List Value) (σ : sS), Rx E d 293 43 [some (.ref x), l1, l2] st σ = Rx E d 293 44 [some (.ref x), l1, l2] (.ref x :: st) σ) ∧
  (∀ (E : sV) (d : Nat) (l1 : Option Value) (l2 : Option Value) (st : List Value) (σ : sS), Rx E d 293 43 [some (.null), l1, l2] st σ = Rx E d 293 44 [some (.null), l1, l2] (.null :: st) σ) ∧
  (∀ (E : sV) (d : Nat) (l0 l1 l2 : Option Value) (a : Nat) (σ : sS), Rx E d 293 44 [l0, l1, l2] [.ref a] σ = some (.inl (some (.ref a)), σ)) ∧
  (∀ (E : sV) (d : Nat) (l0 l1 l2 : Option Value) (σ : sS), Rx E d 293 44 [l0, l1, l2] [.null] σ = some (.inl (some .null), σ)) := ⟨fun _ _ _ _ _ _ _ _ => Rx_of gMT_293 d293_34 rfl,
  fun _ _ _ _ _ _ _ _ => Rx_of gMT_293 d293_34 rfl,
  fun _ _ _ _ _ _ _ _ => Rx_getf gMT_293 d293_35 rfl rfl,
  fun _ _ _ _ _ _ _ => Rx_of gMT_293 d293_38 rfl,
  fun _ _ _ _ _ _ _ _ _ => Rx_of gMT_293 d293_39 rfl,
  fun _ _ _ _ _ _ _ _ _ => Rx_putf gMT_293 d293_40 rfl rfl (pfOk_of rfl rfl (by decide) (by decide) rfl rfl (Or.inl rfl)),
  fun _ _ _ _ _ _ _ => Rx_of gMT_293 d293_43 rfl,
  fun _ _ _ _ _ _ => Rx_of gMT_293 d293_43 rfl,
  fun _ _ _ _ _ _ _ => Rx_aret gMT_293 d293_44 rfl (Or.inl ⟨_, rfl⟩),
  fun _ _ _ _ _ _ => Rx_aretN gMT_293 d293_44 rfl (Or.inl ⟨_, rfl⟩)⟩
-- QASB_append: QASB_append_0, QASB_append_1
theorem NASB_append (E : sV) (d : Nat) (a0 : Nat) (a1 : Nat) (σ : sS) : Mt E (d + 1) 293 [.ref a0, .ref a1] σ = Rx E d 293 0 [some (.ref a0), some (.ref a1), none] [] σ := Mt_succ gMT_293 (Nat.le_of_ble_eq_true rfl)
theorem QASB_ensureCapacityInternal_0 : (∀ (E : sV) (d : Nat) (l1 : Option Value) (l2 : Option Value) (x : Nat) (st : List Value) (σ : sS), Rx E d 294 0 [some (.ref x), l1, l2] st σ = Rx E d 294 1 [some (.ref x), l1, l2] (.ref x :: st) σ) ∧
  (∀ (E : sV) (d : Nat) (l1 : Option Value) (l2 : Option Value) (st : List Value) (σ : sS), Rx E d 294 0 [some (.null), l1, l2] st σ = Rx E d 294 1 [some (.null), l1, l2] (.null :: st) σ) ∧
  (∀ (E : sV) (d : Nat) (l0 l1 l2 : Option Value) (a : Nat) (st : List Value) (σ : sS), Rx E d 294 1 [l0, l1, l2] (.ref a :: st) σ = (gf σ.1 a 9 0).bind (fun v => Rx E d 294 4 [l0, l1, l2] (v :: st) σ)) ∧
  (∀ (E : sV) (d : Nat) (l0 l1 l2 : Option Value) (a : Nat) (st : List Value) (σ : sS), Rx E d 294 4 [l0, l1, l2] (.ref a :: st) σ = (alen σ.1 a).bind (fun n => Rx E d 294 5 [l0, l1, l2] (.int n :: st) σ)) ∧
  (∀ (E : sV) (d : Nat) (l1 : Option Value) (l2 : Option Value) (x : Nat) (st : List Value) (σ : sS), Rx E d 294 5 [some (.ref x), l1, l2] st σ = Rx E d 294 6 [some (.ref x), l1, l2] (.ref x :: st) σ) ∧
  (∀ (E : sV) (d : Nat) (l1 : Option Value) (l2 : Option Value) (st : List Value) (σ : sS), Rx E d 294 5 [some (.null), l1, l2] st σ = Rx E d 294 6 [some (.null), l1, l2] (.null :: st) σ) ∧
  (∀ (E : sV) (d : Nat) (l0 l1 l2 : Option Value) (a : Nat) (st : List Value) (σ : sS), Rx E d 294 6 [l0, l1, l2] (.ref a :: st) σ = (gf σ.1 a 9 1).bind (fun v => Rx E d 294 9 [l0, l1, l2] (v :: st) σ)) ∧
  (∀ (E : sV) (d : Nat) (l0 l1 l2 : Option Value) (x y : Int32) (st : List Value) (σ : sS), Rx E d 294 9 [l0, l1, l2] (.int y :: .int x :: st) σ = Rx E d 294 10 [l0, l1, l2] (.int (x >>> (y &&& 31)) :: st) σ) ∧
  (∀ (E : sV) (d : Nat) (l0 l1 l2 : Option Value) (x : Int32) (st : List Value) (σ : sS), Rx E d 294 10 [l0, l1, l2] (.int x :: st) σ = Rx E d 294 11 [l0, ldrop l1, some (.int x)] st σ) ∧
  (∀ (E : sV) (d : Nat) (l0 : Option Value) (l2 : Option Value) (x : Int32) (st : List Value) (σ : sS), Rx E d 294 11 [l0, some (.int x), l2] st σ = Rx E d 294 12 [l0, some (.int x), l2] (.int x :: st) σ) ∧
  (∀ (E : sV) (d : Nat) (l0 : Option Value) (l1 : Option Value) (x : Int32) (st : List Value) (σ : sS), Rx E d 294 12 [l0, l1, some (.int x)] st σ = Rx E d 294 13 [l0, l1, some (.int x)] (.int x :: st) σ) ∧
  (∀ (E : sV) (d : Nat) (l0 l1 l2 : Option Value) (x y : Int32) (st : List Value) (σ : sS), Rx E d 294 13 [l0, l1, l2] (.int y :: .int x :: st) σ = Rx E d 294 14 [l0, l1, l2] (.int (x - y) :: st) σ) ∧
  (∀ (E : sV) (d : Nat) (l0 l1 l2 : Option Value) (x : Int32) (st : List Value) (σ : sS), Rx E d 294 14 [l0, l1, l2] (.int x :: st) σ = if x ≤ 0 then Rx E d 294 38 [l0, l1, l2] st σ else Rx E d 294 17 [l0, l1, l2] st σ) ∧
  (∀ (E : sV) (d : Nat) (l1 : Option Value) (l2 : Option Value) (x : Nat) (st : List Value) (σ : sS), Rx E d 294 17 [some (.ref x), l1, l2] st σ = Rx E d 294 18 [some (.ref x), l1, l2] (.ref x :: st) σ) ∧
  (∀ (E : sV) (d : Nat) (l1 : Option Value) (l2 : Option Value) (st : List Value) (σ : sS), Rx E d 294 17 [some (.null), l1, l2] st σ = Rx E d 294 18 [some (.null), l1, l2] (.null :: st) σ) ∧
  (∀ (E : sV) (d : Nat) (l1 : Option Value) (l2 : Option Value) (x : Nat) (st : List Value) (σ : sS), Rx E d 294 18 [some (.ref x), l1, l2] st σ = Rx E d 294 19 [some (.ref x), l1, l2] (.ref x :: st) σ) ∧
  (∀ (E : sV) (d : Nat) (l1 : Option Value) (l2 : Option Value) (st : List Value) (σ : sS), Rx E d 294 18 [some (.null), l1, l2] st σ = Rx E d 294 19 [some (.null), l1, l2] (.null :: st) σ) ∧
  (∀ (E : sV) (d : Nat) (l0 l1 l2 : Option Value) (a : Nat) (st : List Value) (σ : sS), Rx E d 294 19 [l0, l1, l2] (.ref a :: st) σ = (gf σ.1 a 9 0).bind (fun v => Rx E d 294 22 [l0, l1, l2] (v :: st) σ)) ∧
  (∀ (E : sV) (d : Nat) (l1 : Option Value) (l2 : Option Value) (x : Nat) (st : List Value) (σ : sS), Rx E d 294 22 [some (.ref x), l1, l2] st σ = Rx E d 294 23 [some (.ref x), l1, l2] (.ref x :: st) σ) ∧
  (∀ (E : sV) (d : Nat) (l1 : Option Value) (l2 : Option Value) (st : List Value) (σ : sS), Rx E d 294 22 [some (.null), l1, l2] st σ = Rx E d 294 23 [some (.null), l1, l2] (.null :: st) σ) ∧
  (∀ (E : sV) (d : Nat) (l0 : Option Value) (l2 : Option Value) (x : Int32) (st : List Value) (σ : sS), Rx E d 294 23 [l0, some (.int x), l2] st σ = Rx E d 294 24 [l0, some (.int x), l2] (.int x :: st) σ) ∧
  (∀ (E : sV) (d : Nat) (l0 l1 l2 : Option Value) (v1 : Value) (b : Nat) (st : List Value) (σ : sS), Rx E d 294 24 [l0, l1, l2] (v1 :: .ref b :: st) σ = if cats st ≤ 8 ∧ isOb σ.1 b 9 = true then callR (Mt E d 295 [.ref b, v1] σ) (fun v σ => Rx E d 294 27 [l0, l1, l2] (v.toList ++ st) σ) else none) ∧
  (∀ (E : sV) (d : Nat) (l1 : Option Value) (l2 : Option Value) (x : Nat) (st : List Value) (σ : sS), Rx E d 294 27 [some (.ref x), l1, l2] st σ = Rx E d 294 28 [some (.ref x), l1, l2] (.ref x :: st) σ) ∧
  (∀ (E : sV) (d : Nat) (l1 : Option Value) (l2 : Option Value) (st : List Value) (σ : sS), Rx E d 294 27 [some (.null), l1, l2] st σ = Rx E d 294 28 [some (.null), l1, l2] (.null :: st) σ) ∧
  (∀ (E : sV) (d : Nat) (l0 l1 l2 : Option Value) (a : Nat) (st : List Value) (σ : sS), Rx E d 294 28 [l0, l1, l2] (.ref a :: st) σ = (gf σ.1 a 9 1).bind (fun v => Rx E d 294 31 [l0, l1, l2] (v :: st) σ)) ∧
  (∀ (E : sV) (d : Nat) (l0 l1 l2 : Option Value) (x y : Int32) (st : List Value) (σ : sS), Rx E d 294 31 [l0, l1, l2] (.int y :: .int x :: st) σ = Rx E d 294 32 [l0, l1, l2] (.int (x <<< (y &&& 31)) :: st) σ) ∧
  (∀ (E : sV) (d : Nat) (l0 l1 l2 : Option Value) (v1 v2 : Value) (st : List Value) (σ : sS), Rx E d 294 32 [l0, l1, l2] (v2 :: v1 :: st) σ = if cats st ≤ 8 then callK (Mt E d 321 [v1, v2] σ) (fun v σ => Rx E d 294 35 [l0, l1, l2] (v.toList ++ st) σ) else none) ∧
  (∀ (E : sV) (d : Nat) (l0 l1 l2 : Option Value) (x : Nat) (a : Nat) (st : List Value) (σ : sS), Rx E d 294 35 [l0, l1, l2] (.ref x :: .ref a :: st) σ = if E.1 ≤ a then (pf σ.1 a 9 0 (.ref x)).bind (fun h => Rx E d 294 38 [l0, l1, l2] st (h, σ.2)) else none) ∧
  (∀ (E : sV) (d : Nat) (l0 l1 l2 : Option Value) (a : Nat) (st : List Value) (σ : sS), Rx E d 294 35 [l0, l1, l2] (.null :: .ref a :: st) σ = if E.1 ≤ a then (pf σ.1 a 9 0 (.null)).bind (fun h => Rx E d 294 38 [l0, l1, l2] st (h, σ.2)) else none) ∧
  (∀ (E : sV) (d : Nat) (l0 l1 l2 : Option Value) (σ : sS), Rx E d 294 38 [l0, l1, l2] [] σ = some (.inl none, σ)) := ⟨fun _ _ _ _ _ _ _ => Rx_of gMT_294 d294_0 rfl,
  fun _ _ _ _ _ _ => Rx_of gMT_294 d294_0 rfl,
  fun _ _ _ _ _ _ _ _ => Rx_getf gMT_294 d294_1 rfl rfl,
  fun _ _ _ _ _ _ _ _ => Rx_alen gMT_294 d294_4 rfl,
  fun _ _ _ _ _ _ _ => Rx_of gMT_294 d294_5 rfl,
  fun _ _ _ _ _ _ => Rx_of gMT_294 d294_5 rfl,
  fun _ _ _ _ _ _ _ _ => Rx_getf gMT_294 d294_6 rfl rfl,
  fun _ _ _ _ _ _ _ _ _ => Rx_of gMT_294 d294_9 rfl,
  fun _ _ _ _ _ _ _ _ => Rx_of gMT_294 d294_10 rfl,
  fun _ _ _ _ _ _ _ => Rx_of gMT_294 d294_11 rfl,
  fun _ _ _ _ _ _ _ => Rx_of gMT_294 d294_12 rfl,
  fun _ _ _ _ _ _ _ _ _ => Rx_of gMT_294 d294_13 rfl,
  fun _ _ _ _ _ _ _ _ => Rx_if gMT_294 d294_14 rfl rfl (by decide),
  fun _ _ _ _ _ _ _ => Rx_of gMT_294 d294_17 rfl,
  fun _ _ _ _ _ _ => Rx_of gMT_294 d294_17 rfl,
  fun _ _ _ _ _ _ _ => Rx_of gMT_294 d294_18 rfl,
  fun _ _ _ _ _ _ => Rx_of gMT_294 d294_18 rfl,
  fun _ _ _ _ _ _ _ _ => Rx_getf gMT_294 d294_19 rfl rfl,
  fun _ _ _ _ _ _ _ => Rx_of gMT_294 d294_22 rfl,
  fun _ _ _ _ _ _ => Rx_of gMT_294 d294_22 rfl,
  fun _ _ _ _ _ _ _ => Rx_of gMT_294 d294_23 rfl,
  fun _ _ _ _ _ _ _ _ _ => Rx_callU gMT_294 d294_24 rfl rfl rfl rfl,
  fun _ _ _ _ _ _ _ => Rx_of gMT_294 d294_27 rfl,
  fun _ _ _ _ _ _ => Rx_of gMT_294 d294_27 rfl,
  fun _ _ _ _ _ _ _ _ => Rx_getf gMT_294 d294_28 rfl rfl,
  fun _ _ _ _ _ _ _ _ _ => Rx_of gMT_294 d294_31 rfl,
  fun _ _ _ _ _ _ _ _ _ => Rx_callS gMT_294 d294_32 rfl rfl rfl rfl rfl,
  fun _ _ _ _ _ _ _ _ _ => Rx_putf gMT_294 d294_35 rfl rfl (pfOk_of rfl rfl (by decide) (by decide) rfl rfl (Or.inl rfl)),
  fun _ _ _ _ _ _ _ _ => Rx_putf gMT_294 d294_35 rfl rfl (pfOk_of rfl rfl (by decide) (by decide) rfl rfl (Or.inl rfl)),
  fun _ _ _ _ _ _ => Rx_vret gMT_294 d294_38 rfl rfl⟩
-- QASB_ensureCapacityInternal: QASB_ensureCapacityInternal_0
theorem NASB_ensureCapacityInternal (E : sV) (d : Nat) (a0 : Nat) (a1 : Int32) (σ : sS) : Mt E (d + 1) 294 [.ref a0, .int a1] σ = Rx E d 294 0 [some (.ref a0), some (.int a1), none] [] σ := Mt_succ gMT_294 (Nat.le_of_ble_eq_true rfl)
theorem QASB_newCapacity_0 : (∀ (E : sV) (d : Nat) (l1 : Option Value) (l2 : Option Value) (l3 : Option Value) (l4 : Option Value) (l5 : Option Value) (x : Nat) (st : List Value) (σ : sS), Rx E d 295 0 [some (.ref x), l1, l2, l3, l4, l5] st σ = Rx E d 295 1 [some (.ref x), l1, l2, l3, l4, l5] (.ref x :: st) σ) ∧
  (∀ (E : sV) (d : Nat) (l1 : Option Value) (l2 : Option Value) (l3 : Option Value) (l4 : Option Value) (l5 : Option Value) (st : List Value) (σ : sS), Rx E d 295 0 [some (.null), l1, l2, l3, l4, l5] st σ = Rx E d 295 1 [some (.null), l1, l2, l3, l4, l5] (.null :: st) σ) ∧
  (∀ (E : sV) (d : Nat) (l0 l1 l2 l3 l4 l5 : Option Value) (a : Nat) (st : List Value) (σ : sS), Rx E d 295 1 [l0, l1, l2, l3, l4, l5] (.ref a :: st) σ = (gf σ.1 a 9 0).bind (fun v => Rx E d 295 4 [l0, l1, l2, l3, l4, l5] (v :: st) σ)) ∧
  (∀ (E : sV) (d : Nat) (l0 l1 l2 l3 l4 l5 : Option Value) (a : Nat) (st : List Value) (σ : sS), Rx E d 295 4 [l0, l1, l2, l3, l4, l5] (.ref a :: st) σ = (alen σ.1 a).bind (fun n => Rx E d 295 5 [l0, l1, l2, l3, l4, l5] (.int n :: st) σ)) ∧
  (∀ (E : sV) (d : Nat) (l0 l1 l2 l3 l4 l5 : Option Value) (x : Int32) (st : List Value) (σ : sS), Rx E d 295 5 [l0, l1, l2, l3, l4, l5] (.int x :: st) σ = Rx E d 295 6 [l0, ldrop l1, some (.int x), l3, l4, l5] st σ) ∧
  (∀ (E : sV) (d : Nat) (l0 : Option Value) (l2 : Option Value) (l3 : Option Value) (l4 : Option Value) (l5 : Option Value) (x : Int32) (st : List Value) (σ : sS), Rx E d 295 6 [l0, some (.int x), l2, l3, l4, l5] st σ = Rx E d 295 7 [l0, some (.int x), l2, l3, l4, l5] (.int x :: st) σ) ∧
  (∀ (E : sV) (d : Nat) (l1 : Option Value) (l2 : Option Value) (l3 : Option Value) (l4 : Option Value) (l5 : Option Value) (x : Nat) (st : List Value) (σ : sS), Rx E d 295 7 [some (.ref x), l1, l2, l3, l4, l5] st σ = Rx E d 295 8 [some (.ref x), l1, l2, l3, l4, l5] (.ref x :: st) σ) ∧
  (∀ (E : sV) (d : Nat) (l1 : Option Value) (l2 : Option Value) (l3 : Option Value) (l4 : Option Value) (l5 : Option Value) (st : List Value) (σ : sS), Rx E d 295 7 [some (.null), l1, l2, l3, l4, l5] st σ = Rx E d 295 8 [some (.null), l1, l2, l3, l4, l5] (.null :: st) σ) ∧
  (∀ (E : sV) (d : Nat) (l0 l1 l2 l3 l4 l5 : Option Value) (a : Nat) (st : List Value) (σ : sS), Rx E d 295 8 [l0, l1, l2, l3, l4, l5] (.ref a :: st) σ = (gf σ.1 a 9 1).bind (fun v => Rx E d 295 11 [l0, l1, l2, l3, l4, l5] (v :: st) σ)) ∧
  (∀ (E : sV) (d : Nat) (l0 l1 l2 l3 l4 l5 : Option Value) (x y : Int32) (st : List Value) (σ : sS), Rx E d 295 11 [l0, l1, l2, l3, l4, l5] (.int y :: .int x :: st) σ = Rx E d 295 12 [l0, l1, l2, l3, l4, l5] (.int (x <<< (y &&& 31)) :: st) σ) ∧
  (∀ (E : sV) (d : Nat) (l0 l1 l2 l3 l4 l5 : Option Value) (x : Int32) (st : List Value) (σ : sS), Rx E d 295 12 [l0, l1, l2, l3, l4, l5] (.int x :: st) σ = Rx E d 295 13 [l0, l1, ldrop l2, some (.int x), l4, l5] st σ) ∧
  (∀ (E : sV) (d : Nat) (l0 : Option Value) (l1 : Option Value) (l2 : Option Value) (l4 : Option Value) (l5 : Option Value) (x : Int32) (st : List Value) (σ : sS), Rx E d 295 13 [l0, l1, l2, some (.int x), l4, l5] st σ = Rx E d 295 14 [l0, l1, l2, some (.int x), l4, l5] (.int x :: st) σ) ∧
  (∀ (E : sV) (d : Nat) (l0 : Option Value) (l1 : Option Value) (l3 : Option Value) (l4 : Option Value) (l5 : Option Value) (x : Int32) (st : List Value) (σ : sS), Rx E d 295 14 [l0, l1, some (.int x), l3, l4, l5] st σ = Rx E d 295 15 [l0, l1, some (.int x), l3, l4, l5] (.int x :: st) σ) ∧
  (∀ (E : sV) (d : Nat) (l0 l1 l2 l3 l4 l5 : Option Value) (x y : Int32) (st : List Value) (σ : sS), Rx E d 295 15 [l0, l1, l2, l3, l4, l5] (.int y :: .int x :: st) σ = Rx E d 295 16 [l0, l1, l2, l3, l4, l5] (.int (x - y) :: st) σ) ∧
  (∀ (E : sV) (d : Nat) (l0 l1 l2 l3 l4 l5 : Option Value) (x : Int32) (st : List Value) (σ : sS), Rx E d 295 16 [l0, l1, l2, l3, l4, l5] (.int x :: st) σ = Rx E d 295 18 [l0, l1, l2, ldrop l3, some (.int x), l5] st σ) ∧
  (∀ (E : sV) (d : Nat) (l0 : Option Value) (l1 : Option Value) (l3 : Option Value) (l4 : Option Value) (l5 : Option Value) (x : Int32) (st : List Value) (σ : sS), Rx E d 295 18 [l0, l1, some (.int x), l3, l4, l5] st σ = Rx E d 295 19 [l0, l1, some (.int x), l3, l4, l5] (.int x :: st) σ) ∧
  (∀ (E : sV) (d : Nat) (l0 : Option Value) (l1 : Option Value) (l2 : Option Value) (l3 : Option Value) (l5 : Option Value) (x : Int32) (st : List Value) (σ : sS), Rx E d 295 19 [l0, l1, l2, l3, some (.int x), l5] st σ = Rx E d 295 21 [l0, l1, l2, l3, some (.int x), l5] (.int x :: st) σ) ∧
  (∀ (E : sV) (d : Nat) (l0 : Option Value) (l1 : Option Value) (l3 : Option Value) (l4 : Option Value) (l5 : Option Value) (x : Int32) (st : List Value) (σ : sS), Rx E d 295 21 [l0, l1, some (.int x), l3, l4, l5] st σ = Rx E d 295 22 [l0, l1, some (.int x), l3, l4, l5] (.int x :: st) σ) ∧
  (∀ (E : sV) (d : Nat) (l0 l1 l2 l3 l4 l5 : Option Value) (st : List Value) (σ : sS), Rx E d 295 22 [l0, l1, l2, l3, l4, l5] st σ = Rx E d 295 23 [l0, l1, l2, l3, l4, l5] (.int (2) :: st) σ) ∧
  (∀ (E : sV) (d : Nat) (l1 : Option Value) (l2 : Option Value) (l3 : Option Value) (l4 : Option Value) (l5 : Option Value) (x : Nat) (st : List Value) (σ : sS), Rx E d 295 23 [some (.ref x), l1, l2, l3, l4, l5] st σ = Rx E d 295 24 [some (.ref x), l1, l2, l3, l4, l5] (.ref x :: st) σ) ∧
  (∀ (E : sV) (d : Nat) (l1 : Option Value) (l2 : Option Value) (l3 : Option Value) (l4 : Option Value) (l5 : Option Value) (st : List Value) (σ : sS), Rx E d 295 23 [some (.null), l1, l2, l3, l4, l5] st σ = Rx E d 295 24 [some (.null), l1, l2, l3, l4, l5] (.null :: st) σ) ∧
  (∀ (E : sV) (d : Nat) (l0 l1 l2 l3 l4 l5 : Option Value) (a : Nat) (st : List Value) (σ : sS), Rx E d 295 24 [l0, l1, l2, l3, l4, l5] (.ref a :: st) σ = (gf σ.1 a 9 1).bind (fun v => Rx E d 295 27 [l0, l1, l2, l3, l4, l5] (v :: st) σ)) ∧
  (∀ (E : sV) (d : Nat) (l0 l1 l2 l3 l4 l5 : Option Value) (x y : Int32) (st : List Value) (σ : sS), Rx E d 295 27 [l0, l1, l2, l3, l4, l5] (.int y :: .int x :: st) σ = Rx E d 295 28 [l0, l1, l2, l3, l4, l5] (.int (x <<< (y &&& 31)) :: st) σ) ∧
  (∀ (E : sV) (d : Nat) (l0 l1 l2 l3 l4 l5 : Option Value) (x y : Int32) (st : List Value) (σ : sS), Rx E d 295 28 [l0, l1, l2, l3, l4, l5] (.int y :: .int x :: st) σ = Rx E d 295 29 [l0, l1, l2, l3, l4, l5] (.int (x + y) :: st) σ) ∧
  (∀ (E : sV) (d : Nat) (l0 l1 l2 l3 l4 l5 : Option Value) (v1 v2 v3 : Value) (st : List Value) (σ : sS), Rx E d 295 29 [l0, l1, l2, l3, l4, l5] (v3 :: v2 :: v1 :: st) σ = if cats st ≤ 8 then callK (Mt E d 322 [v1, v2, v3] σ) (fun v σ => Rx E d 295 32 [l0, l1, l2, l3, l4, l5] (v.toList ++ st) σ) else none) ∧
  (∀ (E : sV) (d : Nat) (l0 l1 l2 l3 l4 l5 : Option Value) (x : Int32) (st : List Value) (σ : sS), Rx E d 295 32 [l0, l1, l2, l3, l4, l5] (.int x :: st) σ = Rx E d 295 34 [l0, l1, l2, l3, ldrop l4, some (.int x)] st σ) ∧
  (∀ (E : sV) (d : Nat) (l0 : Option Value) (l1 : Option Value) (l2 : Option Value) (l3 : Option Value) (l4 : Option Value) (x : Int32) (st : List Value) (σ : sS), Rx E d 295 34 [l0, l1, l2, l3, l4, some (.int x)] st σ = Rx E d 295 36 [l0, l1, l2, l3, l4, some (.int x)] (.int x :: st) σ) ∧
  (∀ (E : sV) (d : Nat) (l0 l1 l2 l3 l4 l5 : Option Value) (st : List Value) (σ : sS), Rx E d 295 36 [l0, l1, l2, l3, l4, l5] st σ = Rx E d 295 38 [l0, l1, l2, l3, l4, l5] (.int 2147483647 :: st) σ) ∧
  (∀ (E : sV) (d : Nat) (l0 l1 l2 l3 l4 l5 : Option Value) (x y : Int32) (st : List Value) (σ : sS), Rx E d 295 38 [l0, l1, l2, l3, l4, l5] (.int y :: .int x :: st) σ = if ¬ x = y then Rx E d 295 51 [l0, l1, l2, l3, l4, l5] st σ else Rx E d 295 41 [l0, l1, l2, l3, l4, l5] st σ) ∧
  (∀ (E : sV) (d : Nat) (l0 l1 l2 l3 l4 l5 : Option Value) (x : Nat) (st : List Value) (σ : sS), Rx E d 295 44 [l0, l1, l2, l3, l4, l5] (.ref x :: st) σ = Rx E d 295 45 [l0, l1, l2, l3, l4, l5] (.ref x :: .ref x :: st) σ) := ⟨fun _ _ _ _ _ _ _ _ _ _ => Rx_of gMT_295 d295_0 rfl,
  fun _ _ _ _ _ _ _ _ _ => Rx_of gMT_295 d295_0 rfl,
  fun _ _ _ _ _ _ _ _ _ _ _ => Rx_getf gMT_295 d295_1 rfl rfl,
  fun _ _ _ _ _ _ _ _ _ _ _ => Rx_alen gMT_295 d295_4 rfl,
  fun _ _ _ _ _ _ _ _ _ _ _ => Rx_of gMT_295 d295_5 rfl,
  fun _ _ _ _ _ _ _ _ _ _ => Rx_of gMT_295 d295_6 rfl,
  fun _ _ _ _ _ _ _ _ _ _ => Rx_of gMT_295 d295_7 rfl,
  fun _ _ _ _ _ _ _ _ _ => Rx_of gMT_295 d295_7 rfl,
  fun _ _ _ _ _ _ _ _ _ _ _ => Rx_getf gMT_295 d295_8 rfl rfl,
  fun _ _ _ _ _ _ _ _ _ _ _ _ => Rx_of gMT_295 d295_11 rfl,
  fun _ _ _ _ _ _ _ _ _ _ _ => Rx_of gMT_295 d295_12 rfl,
  fun _ _ _ _ _ _ _ _ _ _ => Rx_of gMT_295 d295_13 rfl,
  fun _ _ _ _ _ _ _ _ _ _ => Rx_of gMT_295 d295_14 rfl,
  fun _ _ _ _ _ _ _ _ _ _ _ _ => Rx_of gMT_295 d295_15 rfl,
  fun _ _ _ _ _ _ _ _ _ _ _ => Rx_of gMT_295 d295_16 rfl,
  fun _ _ _ _ _ _ _ _ _ _ => Rx_of gMT_295 d295_18 rfl,
  fun _ _ _ _ _ _ _ _ _ _ => Rx_of gMT_295 d295_19 rfl,
  fun _ _ _ _ _ _ _ _ _ _ => Rx_of gMT_295 d295_21 rfl,
  fun _ _ _ _ _ _ _ _ _ _ => Rx_of gMT_295 d295_22 rfl,
  fun _ _ _ _ _ _ _ _ _ _ => Rx_of gMT_295 d295_23 rfl,
  fun _ _ _ _ _ _ _ _ _ => Rx_of gMT_295 d295_23 rfl,
  fun _ _ _ _ _ _ _ _ _ _ _ => Rx_getf gMT_295 d295_24 rfl rfl,
  fun _ _ _ _ _ _ _ _ _ _ _ _ => Rx_of gMT_295 d295_27 rfl,
  fun _ _ _ _ _ _ _ _ _ _ _ _ => Rx_of gMT_295 d295_28 rfl,
  fun _ _ _ _ _ _ _ _ _ _ _ _ _ => Rx_callS gMT_295 d295_29 rfl rfl rfl rfl rfl,
  fun _ _ _ _ _ _ _ _ _ _ _ => Rx_of gMT_295 d295_32 rfl,
  fun _ _ _ _ _ _ _ _ _ _ => Rx_of gMT_295 d295_34 rfl,
  fun _ _ _ _ _ _ _ _ _ _ => Rx_ldcI gMT_295 d295_36 rfl rfl,
  fun _ _ _ _ _ _ _ _ _ _ _ _ => Rx_icmp gMT_295 d295_38 rfl rfl (by decide),
  fun _ _ _ _ _ _ _ _ _ _ _ => Rx_of gMT_295 d295_44 rfl⟩
theorem QASB_newCapacity_1 : (∀ (E : sV) (d : Nat) (l0 l1 l2 l3 l4 l5 : Option Value) (x : Int32) (st : List Value) (σ : sS), Rx E d 295 44 [l0, l1, l2, l3, l4, l5] (.int x :: st) σ = Rx E d 295 45 [l0, l1, l2, l3, l4, l5] (.int x :: .int x :: st) σ) ∧
  (∀ (E : sV) (d : Nat) (l0 : Option Value) (l1 : Option Value) (l2 : Option Value) (l3 : Option Value) (l4 : Option Value) (x : Int32) (st : List Value) (σ : sS), Rx E d 295 51 [l0, l1, l2, l3, l4, some (.int x)] st σ = Rx E d 295 53 [l0, l1, l2, l3, l4, some (.int x)] (.int x :: st) σ) ∧
  (∀ (E : sV) (d : Nat) (l1 : Option Value) (l2 : Option Value) (l3 : Option Value) (l4 : Option Value) (l5 : Option Value) (x : Nat) (st : List Value) (σ : sS), Rx E d 295 53 [some (.ref x), l1, l2, l3, l4, l5] st σ = Rx E d 295 54 [some (.ref x), l1, l2, l3, l4, l5] (.ref x :: st) σ) ∧
  (∀ (E : sV) (d : Nat) (l1 : Option Value) (l2 : Option Value) (l3 : Option Value) (l4 : Option Value) (l5 : Option Value) (st : List Value) (σ : sS), Rx E d 295 53 [some (.null), l1, l2, l3, l4, l5] st σ = Rx E d 295 54 [some (.null), l1, l2, l3, l4, l5] (.null :: st) σ) ∧
  (∀ (E : sV) (d : Nat) (l0 l1 l2 l3 l4 l5 : Option Value) (a : Nat) (st : List Value) (σ : sS), Rx E d 295 54 [l0, l1, l2, l3, l4, l5] (.ref a :: st) σ = (gf σ.1 a 9 1).bind (fun v => Rx E d 295 57 [l0, l1, l2, l3, l4, l5] (v :: st) σ)) ∧
  (∀ (E : sV) (d : Nat) (l0 l1 l2 l3 l4 l5 : Option Value) (x y : Int32) (st : List Value) (σ : sS), Rx E d 295 57 [l0, l1, l2, l3, l4, l5] (.int y :: .int x :: st) σ = Rx E d 295 58 [l0, l1, l2, l3, l4, l5] (.int (x >>> (y &&& 31)) :: st) σ) ∧
  (∀ (E : sV) (d : Nat) (l0 l1 l2 l3 l4 l5 : Option Value) (v : Int32) (σ : sS), Rx E d 295 58 [l0, l1, l2, l3, l4, l5] [.int v] σ = some (.inl (some (.int v)), σ)) := ⟨fun _ _ _ _ _ _ _ _ _ _ _ => Rx_of gMT_295 d295_44 rfl,
  fun _ _ _ _ _ _ _ _ _ _ => Rx_of gMT_295 d295_51 rfl,
  fun _ _ _ _ _ _ _ _ _ _ => Rx_of gMT_295 d295_53 rfl,
  fun _ _ _ _ _ _ _ _ _ => Rx_of gMT_295 d295_53 rfl,
  fun _ _ _ _ _ _ _ _ _ _ _ => Rx_getf gMT_295 d295_54 rfl rfl,
  fun _ _ _ _ _ _ _ _ _ _ _ _ => Rx_of gMT_295 d295_57 rfl,
  fun _ _ _ _ _ _ _ _ _ _ => Rx_iretI gMT_295 d295_58 rfl rfl⟩
-- QASB_newCapacity: QASB_newCapacity_0, QASB_newCapacity_1
theorem NASB_newCapacity (E : sV) (d : Nat) (a0 : Nat) (a1 : Int32) (σ : sS) : Mt E (d + 1) 295 [.ref a0, .int a1] σ = Rx E d 295 0 [some (.ref a0), some (.int a1), none, none, none, none] [] σ := Mt_succ gMT_295 (Nat.le_of_ble_eq_true rfl)
theorem QASB_isLatin1_0 : (∀ (E : sV) (d : Nat) (l0 : Option Value) (st : List Value) (σ : sS), Rx E d 296 0 [l0] st σ = Rx E d 296 3 [l0] (E.2 0 :: st) σ) ∧
  (∀ (E : sV) (d : Nat) (l0 : Option Value) (x : Int32) (st : List Value) (σ : sS), Rx E d 296 3 [l0] (.int x :: st) σ = if x = 0 then Rx E d 296 17 [l0] st σ else Rx E d 296 6 [l0] st σ) ∧
  (∀ (E : sV) (d : Nat) (x : Nat) (st : List Value) (σ : sS), Rx E d 296 6 [some (.ref x)] st σ = Rx E d 296 7 [some (.ref x)] (.ref x :: st) σ) ∧
  (∀ (E : sV) (d : Nat) (st : List Value) (σ : sS), Rx E d 296 6 [some (.null)] st σ = Rx E d 296 7 [some (.null)] (.null :: st) σ) ∧
  (∀ (E : sV) (d : Nat) (l0 : Option Value) (a : Nat) (st : List Value) (σ : sS), Rx E d 296 7 [l0] (.ref a :: st) σ = (gf σ.1 a 9 1).bind (fun v => Rx E d 296 10 [l0] (v :: st) σ)) ∧
  (∀ (E : sV) (d : Nat) (l0 : Option Value) (x : Int32) (st : List Value) (σ : sS), Rx E d 296 10 [l0] (.int x :: st) σ = if ¬ x = 0 then Rx E d 296 17 [l0] st σ else Rx E d 296 13 [l0] st σ) ∧
  (∀ (E : sV) (d : Nat) (l0 : Option Value) (st : List Value) (σ : sS), Rx E d 296 13 [l0] st σ = Rx E d 296 14 [l0] (.int (1) :: st) σ) ∧
  (∀ (E : sV) (d : Nat) (l0 : Option Value) (st : List Value) (σ : sS), Rx E d 296 14 [l0] st σ = Rx E d 296 18 [l0] st σ) ∧
  (∀ (E : sV) (d : Nat) (l0 : Option Value) (st : List Value) (σ : sS), Rx E d 296 17 [l0] st σ = Rx E d 296 18 [l0] (.int (0) :: st) σ) ∧
  (∀ (E : sV) (d : Nat) (l0 : Option Value) (σ : sS), Rx E d 296 18 [l0] [.int 0] σ = some (.inl (some (.int 0)), σ)) ∧
  (∀ (E : sV) (d : Nat) (l0 : Option Value) (σ : sS), Rx E d 296 18 [l0] [.int 1] σ = some (.inl (some (.int 1)), σ)) ∧
  (∀ (E : sV) (d : Nat) (l0 : Option Value) (v : Int32) (σ : sS), Rx E d 296 18 [l0] [.int v] σ = if narrow .boolean (.int v) = .int v then some (.inl (some (.int v)), σ) else none) := ⟨fun _ _ _ _ _ => Rx_gets gMT_296 d296_0 rfl rfl,
  fun _ _ _ _ _ _ => Rx_if gMT_296 d296_3 rfl rfl (by decide),
  fun _ _ _ _ _ => Rx_of gMT_296 d296_6 rfl,
  fun _ _ _ _ => Rx_of gMT_296 d296_6 rfl,
  fun _ _ _ _ _ _ => Rx_getf gMT_296 d296_7 rfl rfl,
  fun _ _ _ _ _ _ => Rx_if gMT_296 d296_10 rfl rfl (by decide),
  fun _ _ _ _ _ => Rx_of gMT_296 d296_13 rfl,
  fun _ _ _ _ _ => Rx_goto gMT_296 d296_14 rfl (by decide),
  fun _ _ _ _ _ => Rx_of gMT_296 d296_17 rfl,
  fun _ _ _ _ => (Rx_iret gMT_296 d296_18 rfl rfl).trans (if_pos rfl),
  fun _ _ _ _ => (Rx_iret gMT_296 d296_18 rfl rfl).trans (if_pos rfl),
  fun _ _ _ _ _ => Rx_iret gMT_296 d296_18 rfl rfl⟩
-- QASB_isLatin1: QASB_isLatin1_0
theorem NASB_isLatin1 (E : sV) (d : Nat) (a0 : Nat) (σ : sS) : Mt E (d + 1) 296 [.ref a0] σ = Rx E d 296 0 [some (.ref a0)] [] σ := Mt_succ gMT_296 (Nat.le_of_ble_eq_true rfl)
theorem QASB_putStringAt_0 : (∀ (E : sV) (d : Nat) (l1 : Option Value) (l2 : Option Value) (x : Nat) (st : List Value) (σ : sS), Rx E d 297 0 [some (.ref x), l1, l2] st σ = Rx E d 297 1 [some (.ref x), l1, l2] (.ref x :: st) σ) ∧
  (∀ (E : sV) (d : Nat) (l1 : Option Value) (l2 : Option Value) (st : List Value) (σ : sS), Rx E d 297 0 [some (.null), l1, l2] st σ = Rx E d 297 1 [some (.null), l1, l2] (.null :: st) σ) ∧
  (∀ (E : sV) (d : Nat) (l0 : Option Value) (l1 : Option Value) (x : Nat) (st : List Value) (σ : sS), Rx E d 297 1 [l0, l1, some (.ref x)] st σ = Rx E d 297 2 [l0, l1, some (.ref x)] (.ref x :: st) σ) ∧
  (∀ (E : sV) (d : Nat) (l0 : Option Value) (l1 : Option Value) (st : List Value) (σ : sS), Rx E d 297 1 [l0, l1, some (.null)] st σ = Rx E d 297 2 [l0, l1, some (.null)] (.null :: st) σ) ∧
  (∀ (E : sV) (d : Nat) (l0 l1 l2 : Option Value) (v1 : Value) (b : Nat) (st : List Value) (σ : sS), Rx E d 297 2 [l0, l1, l2] (v1 :: .ref b :: st) σ = if cats st ≤ 8 ∧ isOb σ.1 b 9 = true then callR (Mt E d 298 [.ref b, v1] σ) (fun v σ => Rx E d 297 5 [l0, l1, l2] (v.toList ++ st) σ) else none) ∧
  (∀ (E : sV) (d : Nat) (l0 : Option Value) (l1 : Option Value) (x : Nat) (st : List Value) (σ : sS), Rx E d 297 5 [l0, l1, some (.ref x)] st σ = Rx E d 297 6 [l0, l1, some (.ref x)] (.ref x :: st) σ) ∧
  (∀ (E : sV) (d : Nat) (l0 : Option Value) (l1 : Option Value) (st : List Value) (σ : sS), Rx E d 297 5 [l0, l1, some (.null)] st σ = Rx E d 297 6 [l0, l1, some (.null)] (.null :: st) σ) ∧
  (∀ (E : sV) (d : Nat) (l1 : Option Value) (l2 : Option Value) (x : Nat) (st : List Value) (σ : sS), Rx E d 297 6 [some (.ref x), l1, l2] st σ = Rx E d 297 7 [some (.ref x), l1, l2] (.ref x :: st) σ) ∧
  (∀ (E : sV) (d : Nat) (l1 : Option Value) (l2 : Option Value) (st : List Value) (σ : sS), Rx E d 297 6 [some (.null), l1, l2] st σ = Rx E d 297 7 [some (.null), l1, l2] (.null :: st) σ) ∧
  (∀ (E : sV) (d : Nat) (l0 l1 l2 : Option Value) (a : Nat) (st : List Value) (σ : sS), Rx E d 297 7 [l0, l1, l2] (.ref a :: st) σ = (gf σ.1 a 9 0).bind (fun v => Rx E d 297 10 [l0, l1, l2] (v :: st) σ)) ∧
  (∀ (E : sV) (d : Nat) (l0 : Option Value) (l2 : Option Value) (x : Int32) (st : List Value) (σ : sS), Rx E d 297 10 [l0, some (.int x), l2] st σ = Rx E d 297 11 [l0, some (.int x), l2] (.int x :: st) σ) ∧
  (∀ (E : sV) (d : Nat) (l1 : Option Value) (l2 : Option Value) (x : Nat) (st : List Value) (σ : sS), Rx E d 297 11 [some (.ref x), l1, l2] st σ = Rx E d 297 12 [some (.ref x), l1, l2] (.ref x :: st) σ) ∧
  (∀ (E : sV) (d : Nat) (l1 : Option Value) (l2 : Option Value) (st : List Value) (σ : sS), Rx E d 297 11 [some (.null), l1, l2] st σ = Rx E d 297 12 [some (.null), l1, l2] (.null :: st) σ) ∧
  (∀ (E : sV) (d : Nat) (l0 l1 l2 : Option Value) (a : Nat) (st : List Value) (σ : sS), Rx E d 297 12 [l0, l1, l2] (.ref a :: st) σ = (gf σ.1 a 9 1).bind (fun v => Rx E d 297 15 [l0, l1, l2] (v :: st) σ)) ∧
  (∀ (E : sV) (d : Nat) (l0 l1 l2 : Option Value) (v1 v2 v3 : Value) (b : Nat) (st : List Value) (σ : sS), Rx E d 297 15 [l0, l1, l2] (v3 :: v2 :: v1 :: .ref b :: st) σ = if cats st ≤ 8 ∧ isOb σ.1 b 10 = true then callK (Mt E d 312 [.ref b, v1, v2, v3] σ) (fun v σ => Rx E d 297 18 [l0, l1, l2] (v.toList ++ st) σ) else none) ∧
  (∀ (E : sV) (d : Nat) (l0 l1 l2 : Option Value) (σ : sS), Rx E d 297 18 [l0, l1, l2] [] σ = some (.inl none, σ)) := ⟨fun _ _ _ _ _ _ _ => Rx_of gMT_297 d297_0 rfl,
  fun _ _ _ _ _ _ => Rx_of gMT_297 d297_0 rfl,
  fun _ _ _ _ _ _ _ => Rx_of gMT_297 d297_1 rfl,
  fun _ _ _ _ _ _ => Rx_of gMT_297 d297_1 rfl,
  fun _ _ _ _ _ _ _ _ _ => Rx_callU gMT_297 d297_2 rfl rfl rfl rfl,
  fun _ _ _ _ _ _ _ => Rx_of gMT_297 d297_5 rfl,
  fun _ _ _ _ _ _ => Rx_of gMT_297 d297_5 rfl,
  fun _ _ _ _ _ _ _ => Rx_of gMT_297 d297_6 rfl,
  fun _ _ _ _ _ _ => Rx_of gMT_297 d297_6 rfl,
  fun _ _ _ _ _ _ _ _ => Rx_getf gMT_297 d297_7 rfl rfl,
  fun _ _ _ _ _ _ _ => Rx_of gMT_297 d297_10 rfl,
  fun _ _ _ _ _ _ _ => Rx_of gMT_297 d297_11 rfl,
  fun _ _ _ _ _ _ => Rx_of gMT_297 d297_11 rfl,
  fun _ _ _ _ _ _ _ _ => Rx_getf gMT_297 d297_12 rfl rfl,
  fun _ _ _ _ _ _ _ _ _ _ _ => Rx_callV gMT_297 d297_15 rfl rfl rfl rfl rfl,
  fun _ _ _ _ _ _ => Rx_vret gMT_297 d297_18 rfl rfl⟩
-- QASB_putStringAt: QASB_putStringAt_0
theorem NASB_putStringAt (E : sV) (d : Nat) (a0 : Nat) (a1 : Int32) (a2 : Nat) (σ : sS) : Mt E (d + 1) 297 [.ref a0, .int a1, .ref a2] σ = Rx E d 297 0 [some (.ref a0), some (.int a1), some (.ref a2)] [] σ := Mt_succ gMT_297 (Nat.le_of_ble_eq_true rfl)
theorem QASB_inflateIfNeededFor_0 : (∀ (E : sV) (d : Nat) (l0 l1 : Option Value) (st : List Value) (σ : sS), Rx E d 298 0 [l0, l1] st σ = Rx E d 298 3 [l0, l1] (E.2 0 :: st) σ) ∧
  (∀ (E : sV) (d : Nat) (l0 l1 : Option Value) (x : Int32) (st : List Value) (σ : sS), Rx E d 298 3 [l0, l1] (.int x :: st) σ = if x = 0 then Rx E d 298 21 [l0, l1] st σ else Rx E d 298 6 [l0, l1] st σ) ∧
  (∀ (E : sV) (d : Nat) (l1 : Option Value) (x : Nat) (st : List Value) (σ : sS), Rx E d 298 6 [some (.ref x), l1] st σ = Rx E d 298 7 [some (.ref x), l1] (.ref x :: st) σ) ∧
  (∀ (E : sV) (d : Nat) (l1 : Option Value) (st : List Value) (σ : sS), Rx E d 298 6 [some (.null), l1] st σ = Rx E d 298 7 [some (.null), l1] (.null :: st) σ) ∧
  (∀ (E : sV) (d : Nat) (l0 l1 : Option Value) (a : Nat) (st : List Value) (σ : sS), Rx E d 298 7 [l0, l1] (.ref a :: st) σ = (gf σ.1 a 9 1).bind (fun v => Rx E d 298 10 [l0, l1] (v :: st) σ)) ∧
  (∀ (E : sV) (d : Nat) (l0 : Option Value) (x : Nat) (st : List Value) (σ : sS), Rx E d 298 10 [l0, some (.ref x)] st σ = Rx E d 298 11 [l0, some (.ref x)] (.ref x :: st) σ) ∧
  (∀ (E : sV) (d : Nat) (l0 : Option Value) (st : List Value) (σ : sS), Rx E d 298 10 [l0, some (.null)] st σ = Rx E d 298 11 [l0, some (.null)] (.null :: st) σ) ∧
  (∀ (E : sV) (d : Nat) (l0 l1 : Option Value) (b : Nat) (st : List Value) (σ : sS), Rx E d 298 11 [l0, l1] (.ref b :: st) σ = if cats st ≤ 8 ∧ isOb σ.1 b 10 = true then callK (Mt E d 311 [.ref b] σ) (fun v σ => Rx E d 298 14 [l0, l1] (v.toList ++ st) σ) else none) ∧
  (∀ (E : sV) (d : Nat) (l0 l1 : Option Value) (x y : Int32) (st : List Value) (σ : sS), Rx E d 298 14 [l0, l1] (.int y :: .int x :: st) σ = if x = y then Rx E d 298 21 [l0, l1] st σ else Rx E d 298 17 [l0, l1] st σ) ∧
  (∀ (E : sV) (d : Nat) (l1 : Option Value) (x : Nat) (st : List Value) (σ : sS), Rx E d 298 17 [some (.ref x), l1] st σ = Rx E d 298 18 [some (.ref x), l1] (.ref x :: st) σ) ∧
  (∀ (E : sV) (d : Nat) (l1 : Option Value) (st : List Value) (σ : sS), Rx E d 298 17 [some (.null), l1] st σ = Rx E d 298 18 [some (.null), l1] (.null :: st) σ) ∧
  (∀ (E : sV) (d : Nat) (l0 l1 : Option Value) (σ : sS), Rx E d 298 21 [l0, l1] [] σ = some (.inl none, σ)) := ⟨fun _ _ _ _ _ _ => Rx_gets gMT_298 d298_0 rfl rfl,
  fun _ _ _ _ _ _ _ => Rx_if gMT_298 d298_3 rfl rfl (by decide),
  fun _ _ _ _ _ _ => Rx_of gMT_298 d298_6 rfl,
  fun _ _ _ _ _ => Rx_of gMT_298 d298_6 rfl,
  fun _ _ _ _ _ _ _ => Rx_getf gMT_298 d298_7 rfl rfl,
  fun _ _ _ _ _ _ => Rx_of gMT_298 d298_10 rfl,
  fun _ _ _ _ _ => Rx_of gMT_298 d298_10 rfl,
  fun _ _ _ _ _ _ _ => Rx_callV gMT_298 d298_11 rfl rfl rfl rfl rfl,
  fun _ _ _ _ _ _ _ _ => Rx_icmp gMT_298 d298_14 rfl rfl (by decide),
  fun _ _ _ _ _ _ => Rx_of gMT_298 d298_17 rfl,
  fun _ _ _ _ _ => Rx_of gMT_298 d298_17 rfl,
  fun _ _ _ _ _ => Rx_vret gMT_298 d298_21 rfl rfl⟩
-- QASB_inflateIfNeededFor: QASB_inflateIfNeededFor_0
theorem NASB_inflateIfNeededFor (E : sV) (d : Nat) (a0 : Nat) (a1 : Nat) (σ : sS) : Mt E (d + 1) 298 [.ref a0, .ref a1] σ = Rx E d 298 0 [some (.ref a0), some (.ref a1)] [] σ := Mt_succ gMT_298 (Nat.le_of_ble_eq_true rfl)
theorem QASB_append_1_0 : (∀ (E : sV) (d : Nat) (l1 : Option Value) (l2 : Option Value) (l3 : Option Value) (x : Nat) (st : List Value) (σ : sS), Rx E d 299 0 [some (.ref x), l1, l2, l3] st σ = Rx E d 299 1 [some (.ref x), l1, l2, l3] (.ref x :: st) σ) ∧
  (∀ (E : sV) (d : Nat) (l1 : Option Value) (l2 : Option Value) (l3 : Option Value) (st : List Value) (σ : sS), Rx E d 299 0 [some (.null), l1, l2, l3] st σ = Rx E d 299 1 [some (.null), l1, l2, l3] (.null :: st) σ) ∧
  (∀ (E : sV) (d : Nat) (l0 l1 l2 l3 : Option Value) (a : Nat) (st : List Value) (σ : sS), Rx E d 299 1 [l0, l1, l2, l3] (.ref a :: st) σ = (gf σ.1 a 9 3).bind (fun v => Rx E d 299 4 [l0, l1, l2, l3] (v :: st) σ)) ∧
  (∀ (E : sV) (d : Nat) (l0 l1 l2 l3 : Option Value) (x : Int32) (st : List Value) (σ : sS), Rx E d 299 4 [l0, l1, l2, l3] (.int x :: st) σ = Rx E d 299 5 [l0, ldrop l1, some (.int x), l3] st σ) ∧
  (∀ (E : sV) (d : Nat) (l0 : Option Value) (l1 : Option Value) (l3 : Option Value) (x : Int32) (st : List Value) (σ : sS), Rx E d 299 5 [l0, l1, some (.int x), l3] st σ = Rx E d 299 6 [l0, l1, some (.int x), l3] (.int x :: st) σ) ∧
  (∀ (E : sV) (d : Nat) (l0 : Option Value) (l2 : Option Value) (l3 : Option Value) (x : Int32) (st : List Value) (σ : sS), Rx E d 299 6 [l0, some (.int x), l2, l3] st σ = Rx E d 299 7 [l0, some (.int x), l2, l3] (.int x :: st) σ) ∧
  (∀ (E : sV) (d : Nat) (l0 l1 l2 l3 : Option Value) (v1 : Value) (st : List Value) (σ : sS), Rx E d 299 7 [l0, l1, l2, l3] (v1 :: st) σ = if cats st ≤ 8 then callK (Mt E d 318 [v1] σ) (fun v σ => Rx E d 299 10 [l0, l1, l2, l3] (v.toList ++ st) σ) else none) ∧
  (∀ (E : sV) (d : Nat) (l0 l1 l2 l3 : Option Value) (x y : Int32) (st : List Value) (σ : sS), Rx E d 299 10 [l0, l1, l2, l3] (.int y :: .int x :: st) σ = Rx E d 299 11 [l0, l1, l2, l3] (.int (x + y) :: st) σ) ∧
  (∀ (E : sV) (d : Nat) (l0 l1 l2 l3 : Option Value) (x : Int32) (st : List Value) (σ : sS), Rx E d 299 11 [l0, l1, l2, l3] (.int x :: st) σ = Rx E d 299 12 [l0, l1, ldrop l2, some (.int x)] st σ) ∧
  (∀ (E : sV) (d : Nat) (l1 : Option Value) (l2 : Option Value) (l3 : Option Value) (x : Nat) (st : List Value) (σ : sS), Rx E d 299 12 [some (.ref x), l1, l2, l3] st σ = Rx E d 299 13 [some (.ref x), l1, l2, l3] (.ref x :: st) σ) ∧
  (∀ (E : sV) (d : Nat) (l1 : Option Value) (l2 : Option Value) (l3 : Option Value) (st : List Value) (σ : sS), Rx E d 299 12 [some (.null), l1, l2, l3] st σ = Rx E d 299 13 [some (.null), l1, l2, l3] (.null :: st) σ) ∧
  (∀ (E : sV) (d : Nat) (l0 : Option Value) (l1 : Option Value) (l2 : Option Value) (x : Int32) (st : List Value) (σ : sS), Rx E d 299 13 [l0, l1, l2, some (.int x)] st σ = Rx E d 299 14 [l0, l1, l2, some (.int x)] (.int x :: st) σ) ∧
  (∀ (E : sV) (d : Nat) (l0 l1 l2 l3 : Option Value) (v1 : Value) (b : Nat) (st : List Value) (σ : sS), Rx E d 299 14 [l0, l1, l2, l3] (v1 :: .ref b :: st) σ = if cats st ≤ 8 ∧ isOb σ.1 b 9 = true then callR (Mt E d 294 [.ref b, v1] σ) (fun v σ => Rx E d 299 17 [l0, l1, l2, l3] (v.toList ++ st) σ) else none) ∧
  (∀ (E : sV) (d : Nat) (l1 : Option Value) (l2 : Option Value) (l3 : Option Value) (x : Nat) (st : List Value) (σ : sS), Rx E d 299 17 [some (.ref x), l1, l2, l3] st σ = Rx E d 299 18 [some (.ref x), l1, l2, l3] (.ref x :: st) σ) ∧
  (∀ (E : sV) (d : Nat) (l1 : Option Value) (l2 : Option Value) (l3 : Option Value) (st : List Value) (σ : sS), Rx E d 299 17 [some (.null), l1, l2, l3] st σ = Rx E d 299 18 [some (.null), l1, l2, l3] (.null :: st) σ) ∧
  (∀ (E : sV) (d : Nat) (l0 l1 l2 l3 : Option Value) (b : Nat) (st : List Value) (σ : sS), Rx E d 299 18 [l0, l1, l2, l3] (.ref b :: st) σ = if cats st ≤ 8 ∧ isOb σ.1 b 9 = true then callR (Mt E d 296 [.ref b] σ) (fun v σ => Rx E d 299 21 [l0, l1, l2, l3] (v.toList ++ st) σ) else none) ∧
  (∀ (E : sV) (d : Nat) (l0 l1 l2 l3 : Option Value) (x : Int32) (st : List Value) (σ : sS), Rx E d 299 21 [l0, l1, l2, l3] (.int x :: st) σ = if x = 0 then Rx E d 299 37 [l0, l1, l2, l3] st σ else Rx E d 299 24 [l0, l1, l2, l3] st σ) ∧
  (∀ (E : sV) (d : Nat) (l0 : Option Value) (l2 : Option Value) (l3 : Option Value) (x : Int32) (st : List Value) (σ : sS), Rx E d 299 24 [l0, some (.int x), l2, l3] st σ = Rx E d 299 25 [l0, some (.int x), l2, l3] (.int x :: st) σ) ∧
  (∀ (E : sV) (d : Nat) (l0 : Option Value) (l1 : Option Value) (l2 : Option Value) (x : Int32) (st : List Value) (σ : sS), Rx E d 299 25 [l0, l1, l2, some (.int x)] st σ = Rx E d 299 26 [l0, l1, l2, some (.int x)] (.int x :: st) σ) ∧
  (∀ (E : sV) (d : Nat) (l1 : Option Value) (l2 : Option Value) (l3 : Option Value) (x : Nat) (st : List Value) (σ : sS), Rx E d 299 26 [some (.ref x), l1, l2, l3] st σ = Rx E d 299 27 [some (.ref x), l1, l2, l3] (.ref x :: st) σ) ∧
  (∀ (E : sV) (d : Nat) (l1 : Option Value) (l2 : Option Value) (l3 : Option Value) (st : List Value) (σ : sS), Rx E d 299 26 [some (.null), l1, l2, l3] st σ = Rx E d 299 27 [some (.null), l1, l2, l3] (.null :: st) σ) ∧
  (∀ (E : sV) (d : Nat) (l0 l1 l2 l3 : Option Value) (a : Nat) (st : List Value) (σ : sS), Rx E d 299 27 [l0, l1, l2, l3] (.ref a :: st) σ = (gf σ.1 a 9 0).bind (fun v => Rx E d 299 30 [l0, l1, l2, l3] (v :: st) σ)) ∧
  (∀ (E : sV) (d : Nat) (l0 l1 l2 l3 : Option Value) (v1 v2 v3 : Value) (st : List Value) (σ : sS), Rx E d 299 30 [l0, l1, l2, l3] (v3 :: v2 :: v1 :: st) σ = if cats st ≤ 8 then callK (Mt E d 319 [v1, v2, v3] σ) (fun v σ => Rx E d 299 33 [l0, l1, l2, l3] (v.toList ++ st) σ) else none) ∧
  (∀ (E : sV) (d : Nat) (l0 l1 l2 l3 : Option Value) (x : Nat) (st : List Value) (σ : sS), Rx E d 299 33 [l0, l1, l2, l3] (.ref x :: st) σ = Rx E d 299 34 [l0, l1, l2, l3] st σ) ∧
  (∀ (E : sV) (d : Nat) (l0 l1 l2 l3 : Option Value) (x : Int32) (st : List Value) (σ : sS), Rx E d 299 33 [l0, l1, l2, l3] (.int x :: st) σ = Rx E d 299 34 [l0, l1, l2, l3] st σ) ∧
  (∀ (E : sV) (d : Nat) (l0 l1 l2 l3 : Option Value) (st : List Value) (σ : sS), Rx E d 299 34 [l0, l1, l2, l3] st σ = Rx E d 299 48 [l0, l1, l2, l3] st σ) ∧
  (∀ (E : sV) (d : Nat) (l0 : Option Value) (l2 : Option Value) (l3 : Option Value) (x : Int32) (st : List Value) (σ : sS), Rx E d 299 37 [l0, some (.int x), l2, l3] st σ = Rx E d 299 38 [l0, some (.int x), l2, l3] (.int x :: st) σ) ∧
  (∀ (E : sV) (d : Nat) (l0 : Option Value) (l1 : Option Value) (l3 : Option Value) (x : Int32) (st : List Value) (σ : sS), Rx E d 299 38 [l0, l1, some (.int x), l3] st σ = Rx E d 299 39 [l0, l1, some (.int x), l3] (.int x :: st) σ) ∧
  (∀ (E : sV) (d : Nat) (l0 : Option Value) (l1 : Option Value) (l2 : Option Value) (x : Int32) (st : List Value) (σ : sS), Rx E d 299 39 [l0, l1, l2, some (.int x)] st σ = Rx E d 299 40 [l0, l1, l2, some (.int x)] (.int x :: st) σ) ∧
  (∀ (E : sV) (d : Nat) (l1 : Option Value) (l2 : Option Value) (l3 : Option Value) (x : Nat) (st : List Value) (σ : sS), Rx E d 299 40 [some (.ref x), l1, l2, l3] st σ = Rx E d 299 41 [some (.ref x), l1, l2, l3] (.ref x :: st) σ) := ⟨fun _ _ _ _ _ _ _ _ => Rx_of gMT_299 d299_0 rfl,
  fun _ _ _ _ _ _ _ => Rx_of gMT_299 d299_0 rfl,
  fun _ _ _ _ _ _ _ _ _ => Rx_getf gMT_299 d299_1 rfl rfl,
  fun _ _ _ _ _ _ _ _ _ => Rx_of gMT_299 d299_4 rfl,
  fun _ _ _ _ _ _ _ _ => Rx_of gMT_299 d299_5 rfl,
  fun _ _ _ _ _ _ _ _ => Rx_of gMT_299 d299_6 rfl,
  fun _ _ _ _ _ _ _ _ _ => Rx_callS gMT_299 d299_7 rfl rfl rfl rfl rfl,
  fun _ _ _ _ _ _ _ _ _ _ => Rx_of gMT_299 d299_10 rfl,
  fun _ _ _ _ _ _ _ _ _ => Rx_of gMT_299 d299_11 rfl,
  fun _ _ _ _ _ _ _ _ => Rx_of gMT_299 d299_12 rfl,
  fun _ _ _ _ _ _ _ => Rx_of gMT_299 d299_12 rfl,
  fun _ _ _ _ _ _ _ _ => Rx_of gMT_299 d299_13 rfl,
  fun _ _ _ _ _ _ _ _ _ _ => Rx_callU gMT_299 d299_14 rfl rfl rfl rfl,
  fun _ _ _ _ _ _ _ _ => Rx_of gMT_299 d299_17 rfl,
  fun _ _ _ _ _ _ _ => Rx_of gMT_299 d299_17 rfl,
  fun _ _ _ _ _ _ _ _ _ => Rx_callU gMT_299 d299_18 rfl rfl rfl rfl,
  fun _ _ _ _ _ _ _ _ _ => Rx_if gMT_299 d299_21 rfl rfl (by decide),
  fun _ _ _ _ _ _ _ _ => Rx_of gMT_299 d299_24 rfl,
  fun _ _ _ _ _ _ _ _ => Rx_of gMT_299 d299_25 rfl,
  fun _ _ _ _ _ _ _ _ => Rx_of gMT_299 d299_26 rfl,
  fun _ _ _ _ _ _ _ => Rx_of gMT_299 d299_26 rfl,
  fun _ _ _ _ _ _ _ _ _ => Rx_getf gMT_299 d299_27 rfl rfl,
  fun _ _ _ _ _ _ _ _ _ _ _ => Rx_callS gMT_299 d299_30 rfl rfl rfl rfl rfl,
  fun _ _ _ _ _ _ _ _ _ => Rx_of gMT_299 d299_33 rfl,
  fun _ _ _ _ _ _ _ _ _ => Rx_of gMT_299 d299_33 rfl,
  fun _ _ _ _ _ _ _ _ => Rx_goto gMT_299 d299_34 rfl (by decide),
  fun _ _ _ _ _ _ _ _ => Rx_of gMT_299 d299_37 rfl,
  fun _ _ _ _ _ _ _ _ => Rx_of gMT_299 d299_38 rfl,
  fun _ _ _ _ _ _ _ _ => Rx_of gMT_299 d299_39 rfl,
  fun _ _ _ _ _ _ _ _ => Rx_of gMT_299 d299_40 rfl⟩
theorem QASB_append_1_1 : (∀ (E : sV) (d : Nat) (l1 : Option Value) (l2 : Option Value) (l3 : Option Value) (st : List Value) (σ : sS), Rx E d 299 40 [some (.null), l1, l2, l3] st σ = Rx E d 299 41 [some (.null), l1, l2, l3] (.null :: st) σ) ∧
  (∀ (E : sV) (d : Nat) (l0 l1 l2 l3 : Option Value) (a : Nat) (st : List Value) (σ : sS), Rx E d 299 41 [l0, l1, l2, l3] (.ref a :: st) σ = (gf σ.1 a 9 0).bind (fun v => Rx E d 299 44 [l0, l1, l2, l3] (v :: st) σ)) ∧
  (∀ (E : sV) (d : Nat) (l0 l1 l2 l3 : Option Value) (x : Nat) (st : List Value) (σ : sS), Rx E d 299 47 [l0, l1, l2, l3] (.ref x :: st) σ = Rx E d 299 48 [l0, l1, l2, l3] st σ) ∧
  (∀ (E : sV) (d : Nat) (l0 l1 l2 l3 : Option Value) (x : Int32) (st : List Value) (σ : sS), Rx E d 299 47 [l0, l1, l2, l3] (.int x :: st) σ = Rx E d 299 48 [l0, l1, l2, l3] st σ) ∧
  (∀ (E : sV) (d : Nat) (l1 : Option Value) (l2 : Option Value) (l3 : Option Value) (x : Nat) (st : List Value) (σ : sS), Rx E d 299 48 [some (.ref x), l1, l2, l3] st σ = Rx E d 299 49 [some (.ref x), l1, l2, l3] (.ref x :: st) σ) ∧
  (∀ (E : sV) (d : Nat) (l1 : Option Value) (l2 : Option Value) (l3 : Option Value) (st : List Value) (σ : sS), Rx E d 299 48 [some (.null), l1, l2, l3] st σ = Rx E d 299 49 [some (.null), l1, l2, l3] (.null :: st) σ) ∧
  (∀ (E : sV) (d : Nat) (l0 : Option Value) (l1 : Option Value) (l2 : Option Value) (x : Int32) (st : List Value) (σ : sS), Rx E d 299 49 [l0, l1, l2, some (.int x)] st σ = Rx E d 299 50 [l0, l1, l2, some (.int x)] (.int x :: st) σ) ∧
  (∀ (E : sV) (d : Nat) (l0 l1 l2 l3 : Option Value) (x : Int32) (a : Nat) (st : List Value) (σ : sS), Rx E d 299 50 [l0, l1, l2, l3] (.int x :: .ref a :: st) σ = if E.1 ≤ a then (pf σ.1 a 9 3 (.int x)).bind (fun h => Rx E d 299 53 [l0, l1, l2, l3] st (h, σ.2)) else none) ∧
  (∀ (E : sV) (d : Nat) (l1 : Option Value) (l2 : Option Value) (l3 : Option Value) (x : Nat) (st : List Value) (σ : sS), Rx E d 299 53 [some (.ref x), l1, l2, l3] st σ = Rx E d 299 54 [some (.ref x), l1, l2, l3] (.ref x :: st) σ) ∧
  (∀ (E : sV) (d : Nat) (l1 : Option Value) (l2 : Option Value) (l3 : Option Value) (st : List Value) (σ : sS), Rx E d 299 53 [some (.null), l1, l2, l3] st σ = Rx E d 299 54 [some (.null), l1, l2, l3] (.null :: st) σ) ∧
  (∀ (E : sV) (d : Nat) (l0 l1 l2 l3 : Option Value) (a : Nat) (σ : sS), Rx E d 299 54 [l0, l1, l2, l3] [.ref a] σ = some (.inl (some (.ref a)), σ)) ∧
  (∀ (E : sV) (d : Nat) (l0 l1 l2 l3 : Option Value) (σ : sS), Rx E d 299 54 [l0, l1, l2, l3] [.null] σ = some (.inl (some .null), σ)) := ⟨fun _ _ _ _ _ _ _ => Rx_of gMT_299 d299_40 rfl,
  fun _ _ _ _ _ _ _ _ _ => Rx_getf gMT_299 d299_41 rfl rfl,
  fun _ _ _ _ _ _ _ _ _ => Rx_of gMT_299 d299_47 rfl,
  fun _ _ _ _ _ _ _ _ _ => Rx_of gMT_299 d299_47 rfl,
  fun _ _ _ _ _ _ _ _ => Rx_of gMT_299 d299_48 rfl,
  fun _ _ _ _ _ _ _ => Rx_of gMT_299 d299_48 rfl,
  fun _ _ _ _ _ _ _ _ => Rx_of gMT_299 d299_49 rfl,
  fun _ _ _ _ _ _ _ _ _ _ => Rx_putf gMT_299 d299_50 rfl rfl (pfOk_of rfl rfl (by decide) (by decide) rfl rfl (Or.inl rfl)),
  fun _ _ _ _ _ _ _ _ => Rx_of gMT_299 d299_53 rfl,
  fun _ _ _ _ _ _ _ => Rx_of gMT_299 d299_53 rfl,
  fun _ _ _ _ _ _ _ _ => Rx_aret gMT_299 d299_54 rfl (Or.inl ⟨_, rfl⟩),
  fun _ _ _ _ _ _ _ => Rx_aretN gMT_299 d299_54 rfl (Or.inl ⟨_, rfl⟩)⟩
-- QASB_append_1: QASB_append_1_0, QASB_append_1_1
theorem NASB_append_1 (E : sV) (d : Nat) (a0 : Nat) (a1 : Int32) (σ : sS) : Mt E (d + 1) 299 [.ref a0, .int a1] σ = Rx E d 299 0 [some (.ref a0), some (.int a1), none, none] [] σ := Mt_succ gMT_299 (Nat.le_of_ble_eq_true rfl)
theorem QASB_length_0 : (∀ (E : sV) (d : Nat) (x : Nat) (st : List Value) (σ : sS), Rx E d 300 0 [some (.ref x)] st σ = Rx E d 300 1 [some (.ref x)] (.ref x :: st) σ) ∧
  (∀ (E : sV) (d : Nat) (st : List Value) (σ : sS), Rx E d 300 0 [some (.null)] st σ = Rx E d 300 1 [some (.null)] (.null :: st) σ) ∧
  (∀ (E : sV) (d : Nat) (l0 : Option Value) (a : Nat) (st : List Value) (σ : sS), Rx E d 300 1 [l0] (.ref a :: st) σ = (gf σ.1 a 9 3).bind (fun v => Rx E d 300 4 [l0] (v :: st) σ)) ∧
  (∀ (E : sV) (d : Nat) (l0 : Option Value) (v : Int32) (σ : sS), Rx E d 300 4 [l0] [.int v] σ = some (.inl (some (.int v)), σ)) := ⟨fun _ _ _ _ _ => Rx_of gMT_300 d300_0 rfl,
  fun _ _ _ _ => Rx_of gMT_300 d300_0 rfl,
  fun _ _ _ _ _ _ => Rx_getf gMT_300 d300_1 rfl rfl,
  fun _ _ _ _ _ => Rx_iretI gMT_300 d300_4 rfl rfl⟩
-- QASB_length: QASB_length_0
theorem NASB_length (E : sV) (d : Nat) (a0 : Nat) (σ : sS) : Mt E (d + 1) 300 [.ref a0] σ = Rx E d 300 0 [some (.ref a0)] [] σ := Mt_succ gMT_300 (Nat.le_of_ble_eq_true rfl)
theorem QASB_append_2_0 : (∀ (E : sV) (d : Nat) (l1 : Option Value) (x : Nat) (st : List Value) (σ : sS), Rx E d 301 0 [some (.ref x), l1] st σ = Rx E d 301 1 [some (.ref x), l1] (.ref x :: st) σ) ∧
  (∀ (E : sV) (d : Nat) (l1 : Option Value) (st : List Value) (σ : sS), Rx E d 301 0 [some (.null), l1] st σ = Rx E d 301 1 [some (.null), l1] (.null :: st) σ) ∧
  (∀ (E : sV) (d : Nat) (l1 : Option Value) (x : Nat) (st : List Value) (σ : sS), Rx E d 301 1 [some (.ref x), l1] st σ = Rx E d 301 2 [some (.ref x), l1] (.ref x :: st) σ) ∧
  (∀ (E : sV) (d : Nat) (l1 : Option Value) (st : List Value) (σ : sS), Rx E d 301 1 [some (.null), l1] st σ = Rx E d 301 2 [some (.null), l1] (.null :: st) σ) ∧
  (∀ (E : sV) (d : Nat) (l0 l1 : Option Value) (a : Nat) (st : List Value) (σ : sS), Rx E d 301 2 [l0, l1] (.ref a :: st) σ = (gf σ.1 a 9 3).bind (fun v => Rx E d 301 5 [l0, l1] (v :: st) σ)) ∧
  (∀ (E : sV) (d : Nat) (l0 l1 : Option Value) (st : List Value) (σ : sS), Rx E d 301 5 [l0, l1] st σ = Rx E d 301 6 [l0, l1] (.int (1) :: st) σ) ∧
  (∀ (E : sV) (d : Nat) (l0 l1 : Option Value) (x y : Int32) (st : List Value) (σ : sS), Rx E d 301 6 [l0, l1] (.int y :: .int x :: st) σ = Rx E d 301 7 [l0, l1] (.int (x + y) :: st) σ) ∧
  (∀ (E : sV) (d : Nat) (l0 l1 : Option Value) (v1 : Value) (b : Nat) (st : List Value) (σ : sS), Rx E d 301 7 [l0, l1] (v1 :: .ref b :: st) σ = if cats st ≤ 8 ∧ isOb σ.1 b 9 = true then callR (Mt E d 294 [.ref b, v1] σ) (fun v σ => Rx E d 301 10 [l0, l1] (v.toList ++ st) σ) else none) ∧
  (∀ (E : sV) (d : Nat) (l1 : Option Value) (x : Nat) (st : List Value) (σ : sS), Rx E d 301 10 [some (.ref x), l1] st σ = Rx E d 301 11 [some (.ref x), l1] (.ref x :: st) σ) ∧
  (∀ (E : sV) (d : Nat) (l1 : Option Value) (st : List Value) (σ : sS), Rx E d 301 10 [some (.null), l1] st σ = Rx E d 301 11 [some (.null), l1] (.null :: st) σ) ∧
  (∀ (E : sV) (d : Nat) (l0 l1 : Option Value) (b : Nat) (st : List Value) (σ : sS), Rx E d 301 11 [l0, l1] (.ref b :: st) σ = if cats st ≤ 8 ∧ isOb σ.1 b 9 = true then callR (Mt E d 296 [.ref b] σ) (fun v σ => Rx E d 301 14 [l0, l1] (v.toList ++ st) σ) else none) ∧
  (∀ (E : sV) (d : Nat) (l0 l1 : Option Value) (x : Int32) (st : List Value) (σ : sS), Rx E d 301 14 [l0, l1] (.int x :: st) σ = if x = 0 then Rx E d 301 45 [l0, l1] st σ else Rx E d 301 17 [l0, l1] st σ) ∧
  (∀ (E : sV) (d : Nat) (l0 : Option Value) (x : Int32) (st : List Value) (σ : sS), Rx E d 301 17 [l0, some (.int x)] st σ = Rx E d 301 18 [l0, some (.int x)] (.int x :: st) σ) ∧
  (∀ (E : sV) (d : Nat) (l0 l1 : Option Value) (v1 : Value) (st : List Value) (σ : sS), Rx E d 301 18 [l0, l1] (v1 :: st) σ = if cats st ≤ 8 then callK (Mt E d 316 [v1] σ) (fun v σ => Rx E d 301 21 [l0, l1] (v.toList ++ st) σ) else none) ∧
  (∀ (E : sV) (d : Nat) (l0 l1 : Option Value) (x : Int32) (st : List Value) (σ : sS), Rx E d 301 21 [l0, l1] (.int x :: st) σ = if x = 0 then Rx E d 301 45 [l0, l1] st σ else Rx E d 301 24 [l0, l1] st σ) ∧
  (∀ (E : sV) (d : Nat) (l1 : Option Value) (x : Nat) (st : List Value) (σ : sS), Rx E d 301 24 [some (.ref x), l1] st σ = Rx E d 301 25 [some (.ref x), l1] (.ref x :: st) σ) ∧
  (∀ (E : sV) (d : Nat) (l1 : Option Value) (st : List Value) (σ : sS), Rx E d 301 24 [some (.null), l1] st σ = Rx E d 301 25 [some (.null), l1] (.null :: st) σ) ∧
  (∀ (E : sV) (d : Nat) (l0 l1 : Option Value) (a : Nat) (st : List Value) (σ : sS), Rx E d 301 25 [l0, l1] (.ref a :: st) σ = (gf σ.1 a 9 0).bind (fun v => Rx E d 301 28 [l0, l1] (v :: st) σ)) ∧
  (∀ (E : sV) (d : Nat) (l1 : Option Value) (x : Nat) (st : List Value) (σ : sS), Rx E d 301 28 [some (.ref x), l1] st σ = Rx E d 301 29 [some (.ref x), l1] (.ref x :: st) σ) ∧
  (∀ (E : sV) (d : Nat) (l1 : Option Value) (st : List Value) (σ : sS), Rx E d 301 28 [some (.null), l1] st σ = Rx E d 301 29 [some (.null), l1] (.null :: st) σ) ∧
  (∀ (E : sV) (d : Nat) (l0 l1 : Option Value) (x : Nat) (st : List Value) (σ : sS), Rx E d 301 29 [l0, l1] (.ref x :: st) σ = Rx E d 301 30 [l0, l1] (.ref x :: .ref x :: st) σ) ∧
  (∀ (E : sV) (d : Nat) (l0 l1 : Option Value) (x : Int32) (st : List Value) (σ : sS), Rx E d 301 29 [l0, l1] (.int x :: st) σ = Rx E d 301 30 [l0, l1] (.int x :: .int x :: st) σ) ∧
  (∀ (E : sV) (d : Nat) (l0 l1 : Option Value) (a : Nat) (st : List Value) (σ : sS), Rx E d 301 30 [l0, l1] (.ref a :: st) σ = (gf σ.1 a 9 3).bind (fun v => Rx E d 301 33 [l0, l1] (v :: st) σ)) ∧
  (∀ (E : sV) (d : Nat) (l0 l1 : Option Value) (x : Int32) (a : Nat) (st : List Value) (σ : sS), Rx E d 301 33 [l0, l1] (.int x :: .ref a :: st) σ = Rx E d 301 34 [l0, l1] (.int x :: .ref a :: .int x :: st) σ) ∧
  (∀ (E : sV) (d : Nat) (l0 l1 : Option Value) (st : List Value) (σ : sS), Rx E d 301 34 [l0, l1] st σ = Rx E d 301 35 [l0, l1] (.int (1) :: st) σ) ∧
  (∀ (E : sV) (d : Nat) (l0 l1 : Option Value) (x y : Int32) (st : List Value) (σ : sS), Rx E d 301 35 [l0, l1] (.int y :: .int x :: st) σ = Rx E d 301 36 [l0, l1] (.int (x + y) :: st) σ) ∧
  (∀ (E : sV) (d : Nat) (l0 l1 : Option Value) (x : Int32) (a : Nat) (st : List Value) (σ : sS), Rx E d 301 36 [l0, l1] (.int x :: .ref a :: st) σ = if E.1 ≤ a then (pf σ.1 a 9 3 (.int x)).bind (fun h => Rx E d 301 39 [l0, l1] st (h, σ.2)) else none) ∧
  (∀ (E : sV) (d : Nat) (l0 : Option Value) (x : Int32) (st : List Value) (σ : sS), Rx E d 301 39 [l0, some (.int x)] st σ = Rx E d 301 40 [l0, some (.int x)] (.int x :: st) σ) ∧
  (∀ (E : sV) (d : Nat) (l0 l1 : Option Value) (x : Int32) (st : List Value) (σ : sS), Rx E d 301 40 [l0, l1] (.int x :: st) σ = Rx E d 301 41 [l0, l1] (.int x.toInt8.toInt32 :: st) σ) ∧
  (∀ (E : sV) (d : Nat) (l0 l1 : Option Value) (x : Int32) (i : Int32) (a : Nat) (st : List Value) (σ : sS), Rx E d 301 41 [l0, l1] (.int x :: .int i :: .ref a :: st) σ = if E.1 ≤ a then ((astI .byte σ.1 a i x).or (astI .boolean σ.1 a i x)).bind (fun h => Rx E d 301 42 [l0, l1] st (h, σ.2)) else none) := ⟨fun _ _ _ _ _ _ => Rx_of gMT_301 d301_0 rfl,
  fun _ _ _ _ _ => Rx_of gMT_301 d301_0 rfl,
  fun _ _ _ _ _ _ => Rx_of gMT_301 d301_1 rfl,
  fun _ _ _ _ _ => Rx_of gMT_301 d301_1 rfl,
  fun _ _ _ _ _ _ _ => Rx_getf gMT_301 d301_2 rfl rfl,
  fun _ _ _ _ _ _ => Rx_of gMT_301 d301_5 rfl,
  fun _ _ _ _ _ _ _ _ => Rx_of gMT_301 d301_6 rfl,
  fun _ _ _ _ _ _ _ _ => Rx_callU gMT_301 d301_7 rfl rfl rfl rfl,
  fun _ _ _ _ _ _ => Rx_of gMT_301 d301_10 rfl,
  fun _ _ _ _ _ => Rx_of gMT_301 d301_10 rfl,
  fun _ _ _ _ _ _ _ => Rx_callU gMT_301 d301_11 rfl rfl rfl rfl,
  fun _ _ _ _ _ _ _ => Rx_if gMT_301 d301_14 rfl rfl (by decide),
  fun _ _ _ _ _ _ => Rx_of gMT_301 d301_17 rfl,
  fun _ _ _ _ _ _ _ => Rx_callS gMT_301 d301_18 rfl rfl rfl rfl rfl,
  fun _ _ _ _ _ _ _ => Rx_if gMT_301 d301_21 rfl rfl (by decide),
  fun _ _ _ _ _ _ => Rx_of gMT_301 d301_24 rfl,
  fun _ _ _ _ _ => Rx_of gMT_301 d301_24 rfl,
  fun _ _ _ _ _ _ _ => Rx_getf gMT_301 d301_25 rfl rfl,
  fun _ _ _ _ _ _ => Rx_of gMT_301 d301_28 rfl,
  fun _ _ _ _ _ => Rx_of gMT_301 d301_28 rfl,
  fun _ _ _ _ _ _ _ => Rx_of gMT_301 d301_29 rfl,
  fun _ _ _ _ _ _ _ => Rx_of gMT_301 d301_29 rfl,
  fun _ _ _ _ _ _ _ => Rx_getf gMT_301 d301_30 rfl rfl,
  fun _ _ _ _ _ _ _ _ => Rx_of gMT_301 d301_33 rfl,
  fun _ _ _ _ _ _ => Rx_of gMT_301 d301_34 rfl,
  fun _ _ _ _ _ _ _ _ => Rx_of gMT_301 d301_35 rfl,
  fun _ _ _ _ _ _ _ _ => Rx_putf gMT_301 d301_36 rfl rfl (pfOk_of rfl rfl (by decide) (by decide) rfl rfl (Or.inl rfl)),
  fun _ _ _ _ _ _ => Rx_of gMT_301 d301_39 rfl,
  fun _ _ _ _ _ _ _ => Rx_of gMT_301 d301_40 rfl,
  fun _ _ _ _ _ _ _ _ _ => Rx_ast gMT_301 d301_41 rfl rfl⟩
theorem QASB_append_2_1 : (∀ (E : sV) (d : Nat) (l0 l1 : Option Value) (st : List Value) (σ : sS), Rx E d 301 42 [l0, l1] st σ = Rx E d 301 75 [l0, l1] st σ) ∧
  (∀ (E : sV) (d : Nat) (l1 : Option Value) (x : Nat) (st : List Value) (σ : sS), Rx E d 301 45 [some (.ref x), l1] st σ = Rx E d 301 46 [some (.ref x), l1] (.ref x :: st) σ) ∧
  (∀ (E : sV) (d : Nat) (l1 : Option Value) (st : List Value) (σ : sS), Rx E d 301 45 [some (.null), l1] st σ = Rx E d 301 46 [some (.null), l1] (.null :: st) σ) ∧
  (∀ (E : sV) (d : Nat) (l0 l1 : Option Value) (b : Nat) (st : List Value) (σ : sS), Rx E d 301 46 [l0, l1] (.ref b :: st) σ = if cats st ≤ 8 ∧ isOb σ.1 b 9 = true then callR (Mt E d 296 [.ref b] σ) (fun v σ => Rx E d 301 49 [l0, l1] (v.toList ++ st) σ) else none) ∧
  (∀ (E : sV) (d : Nat) (l0 l1 : Option Value) (x : Int32) (st : List Value) (σ : sS), Rx E d 301 49 [l0, l1] (.int x :: st) σ = if x = 0 then Rx E d 301 56 [l0, l1] st σ else Rx E d 301 52 [l0, l1] st σ) ∧
  (∀ (E : sV) (d : Nat) (l1 : Option Value) (x : Nat) (st : List Value) (σ : sS), Rx E d 301 52 [some (.ref x), l1] st σ = Rx E d 301 53 [some (.ref x), l1] (.ref x :: st) σ) ∧
  (∀ (E : sV) (d : Nat) (l1 : Option Value) (st : List Value) (σ : sS), Rx E d 301 52 [some (.null), l1] st σ = Rx E d 301 53 [some (.null), l1] (.null :: st) σ) ∧
  (∀ (E : sV) (d : Nat) (l1 : Option Value) (x : Nat) (st : List Value) (σ : sS), Rx E d 301 56 [some (.ref x), l1] st σ = Rx E d 301 57 [some (.ref x), l1] (.ref x :: st) σ) ∧
  (∀ (E : sV) (d : Nat) (l1 : Option Value) (st : List Value) (σ : sS), Rx E d 301 56 [some (.null), l1] st σ = Rx E d 301 57 [some (.null), l1] (.null :: st) σ) ∧
  (∀ (E : sV) (d : Nat) (l0 l1 : Option Value) (a : Nat) (st : List Value) (σ : sS), Rx E d 301 57 [l0, l1] (.ref a :: st) σ = (gf σ.1 a 9 0).bind (fun v => Rx E d 301 60 [l0, l1] (v :: st) σ)) ∧
  (∀ (E : sV) (d : Nat) (l1 : Option Value) (x : Nat) (st : List Value) (σ : sS), Rx E d 301 60 [some (.ref x), l1] st σ = Rx E d 301 61 [some (.ref x), l1] (.ref x :: st) σ) ∧
  (∀ (E : sV) (d : Nat) (l1 : Option Value) (st : List Value) (σ : sS), Rx E d 301 60 [some (.null), l1] st σ = Rx E d 301 61 [some (.null), l1] (.null :: st) σ) ∧
  (∀ (E : sV) (d : Nat) (l0 l1 : Option Value) (x : Nat) (st : List Value) (σ : sS), Rx E d 301 61 [l0, l1] (.ref x :: st) σ = Rx E d 301 62 [l0, l1] (.ref x :: .ref x :: st) σ) ∧
  (∀ (E : sV) (d : Nat) (l0 l1 : Option Value) (x : Int32) (st : List Value) (σ : sS), Rx E d 301 61 [l0, l1] (.int x :: st) σ = Rx E d 301 62 [l0, l1] (.int x :: .int x :: st) σ) ∧
  (∀ (E : sV) (d : Nat) (l0 l1 : Option Value) (a : Nat) (st : List Value) (σ : sS), Rx E d 301 62 [l0, l1] (.ref a :: st) σ = (gf σ.1 a 9 3).bind (fun v => Rx E d 301 65 [l0, l1] (v :: st) σ)) ∧
  (∀ (E : sV) (d : Nat) (l0 l1 : Option Value) (x : Int32) (a : Nat) (st : List Value) (σ : sS), Rx E d 301 65 [l0, l1] (.int x :: .ref a :: st) σ = Rx E d 301 66 [l0, l1] (.int x :: .ref a :: .int x :: st) σ) ∧
  (∀ (E : sV) (d : Nat) (l0 l1 : Option Value) (st : List Value) (σ : sS), Rx E d 301 66 [l0, l1] st σ = Rx E d 301 67 [l0, l1] (.int (1) :: st) σ) ∧
  (∀ (E : sV) (d : Nat) (l0 l1 : Option Value) (x y : Int32) (st : List Value) (σ : sS), Rx E d 301 67 [l0, l1] (.int y :: .int x :: st) σ = Rx E d 301 68 [l0, l1] (.int (x + y) :: st) σ) ∧
  (∀ (E : sV) (d : Nat) (l0 l1 : Option Value) (x : Int32) (a : Nat) (st : List Value) (σ : sS), Rx E d 301 68 [l0, l1] (.int x :: .ref a :: st) σ = if E.1 ≤ a then (pf σ.1 a 9 3 (.int x)).bind (fun h => Rx E d 301 71 [l0, l1] st (h, σ.2)) else none) ∧
  (∀ (E : sV) (d : Nat) (l0 : Option Value) (x : Int32) (st : List Value) (σ : sS), Rx E d 301 71 [l0, some (.int x)] st σ = Rx E d 301 72 [l0, some (.int x)] (.int x :: st) σ) ∧
  (∀ (E : sV) (d : Nat) (l1 : Option Value) (x : Nat) (st : List Value) (σ : sS), Rx E d 301 75 [some (.ref x), l1] st σ = Rx E d 301 76 [some (.ref x), l1] (.ref x :: st) σ) ∧
  (∀ (E : sV) (d : Nat) (l1 : Option Value) (st : List Value) (σ : sS), Rx E d 301 75 [some (.null), l1] st σ = Rx E d 301 76 [some (.null), l1] (.null :: st) σ) ∧
  (∀ (E : sV) (d : Nat) (l0 l1 : Option Value) (a : Nat) (σ : sS), Rx E d 301 76 [l0, l1] [.ref a] σ = some (.inl (some (.ref a)), σ)) ∧
  (∀ (E : sV) (d : Nat) (l0 l1 : Option Value) (σ : sS), Rx E d 301 76 [l0, l1] [.null] σ = some (.inl (some .null), σ)) := ⟨fun _ _ _ _ _ _ => Rx_goto gMT_301 d301_42 rfl (by decide),
  fun _ _ _ _ _ _ => Rx_of gMT_301 d301_45 rfl,
  fun _ _ _ _ _ => Rx_of gMT_301 d301_45 rfl,
  fun _ _ _ _ _ _ _ => Rx_callU gMT_301 d301_46 rfl rfl rfl rfl,
  fun _ _ _ _ _ _ _ => Rx_if gMT_301 d301_49 rfl rfl (by decide),
  fun _ _ _ _ _ _ => Rx_of gMT_301 d301_52 rfl,
  fun _ _ _ _ _ => Rx_of gMT_301 d301_52 rfl,
  fun _ _ _ _ _ _ => Rx_of gMT_301 d301_56 rfl,
  fun _ _ _ _ _ => Rx_of gMT_301 d301_56 rfl,
  fun _ _ _ _ _ _ _ => Rx_getf gMT_301 d301_57 rfl rfl,
  fun _ _ _ _ _ _ => Rx_of gMT_301 d301_60 rfl,
  fun _ _ _ _ _ => Rx_of gMT_301 d301_60 rfl,
  fun _ _ _ _ _ _ _ => Rx_of gMT_301 d301_61 rfl,
  fun _ _ _ _ _ _ _ => Rx_of gMT_301 d301_61 rfl,
  fun _ _ _ _ _ _ _ => Rx_getf gMT_301 d301_62 rfl rfl,
  fun _ _ _ _ _ _ _ _ => Rx_of gMT_301 d301_65 rfl,
  fun _ _ _ _ _ _ => Rx_of gMT_301 d301_66 rfl,
  fun _ _ _ _ _ _ _ _ => Rx_of gMT_301 d301_67 rfl,
  fun _ _ _ _ _ _ _ _ => Rx_putf gMT_301 d301_68 rfl rfl (pfOk_of rfl rfl (by decide) (by decide) rfl rfl (Or.inl rfl)),
  fun _ _ _ _ _ _ => Rx_of gMT_301 d301_71 rfl,
  fun _ _ _ _ _ _ => Rx_of gMT_301 d301_75 rfl,
  fun _ _ _ _ _ => Rx_of gMT_301 d301_75 rfl,
  fun _ _ _ _ _ _ => Rx_aret gMT_301 d301_76 rfl (Or.inl ⟨_, rfl⟩),
  fun _ _ _ _ _ => Rx_aretN gMT_301 d301_76 rfl (Or.inl ⟨_, rfl⟩)⟩
-- QASB_append_2: QASB_append_2_0, QASB_append_2_1
theorem NASB_append_2 (E : sV) (d : Nat) (a0 : Nat) (a1 : Int32) (σ : sS) : Mt E (d + 1) 301 [.ref a0, .int a1] σ = Rx E d 301 0 [some (.ref a0), some (.int a1)] [] σ := Mt_succ gMT_301 (Nat.le_of_ble_eq_true rfl)
theorem QASB_charAt_0 : (∀ (E : sV) (d : Nat) (l1 : Option Value) (l2 : Option Value) (l3 : Option Value) (l4 : Option Value) (x : Nat) (st : List Value) (σ : sS), Rx E d 302 0 [some (.ref x), l1, l2, l3, l4] st σ = Rx E d 302 1 [some (.ref x), l1, l2, l3, l4] (.ref x :: st) σ) ∧
  (∀ (E : sV) (d : Nat) (l1 : Option Value) (l2 : Option Value) (l3 : Option Value) (l4 : Option Value) (st : List Value) (σ : sS), Rx E d 302 0 [some (.null), l1, l2, l3, l4] st σ = Rx E d 302 1 [some (.null), l1, l2, l3, l4] (.null :: st) σ) ∧
  (∀ (E : sV) (d : Nat) (l0 l1 l2 l3 l4 : Option Value) (a : Nat) (st : List Value) (σ : sS), Rx E d 302 1 [l0, l1, l2, l3, l4] (.ref a :: st) σ = (gf σ.1 a 9 1).bind (fun v => Rx E d 302 4 [l0, l1, l2, l3, l4] (v :: st) σ)) ∧
  (∀ (E : sV) (d : Nat) (l0 l1 l2 l3 l4 : Option Value) (x : Int32) (st : List Value) (σ : sS), Rx E d 302 4 [l0, l1, l2, l3, l4] (.int x :: st) σ = Rx E d 302 5 [l0, ldrop l1, some (.int x), l3, l4] st σ) ∧
  (∀ (E : sV) (d : Nat) (l1 : Option Value) (l2 : Option Value) (l3 : Option Value) (l4 : Option Value) (x : Nat) (st : List Value) (σ : sS), Rx E d 302 5 [some (.ref x), l1, l2, l3, l4] st σ = Rx E d 302 6 [some (.ref x), l1, l2, l3, l4] (.ref x :: st) σ) ∧
  (∀ (E : sV) (d : Nat) (l1 : Option Value) (l2 : Option Value) (l3 : Option Value) (l4 : Option Value) (st : List Value) (σ : sS), Rx E d 302 5 [some (.null), l1, l2, l3, l4] st σ = Rx E d 302 6 [some (.null), l1, l2, l3, l4] (.null :: st) σ) ∧
  (∀ (E : sV) (d : Nat) (l0 l1 l2 l3 l4 : Option Value) (a : Nat) (st : List Value) (σ : sS), Rx E d 302 6 [l0, l1, l2, l3, l4] (.ref a :: st) σ = (gf σ.1 a 9 0).bind (fun v => Rx E d 302 9 [l0, l1, l2, l3, l4] (v :: st) σ)) ∧
  (∀ (E : sV) (d : Nat) (l0 l1 l2 l3 l4 : Option Value) (x : Nat) (st : List Value) (σ : sS), Rx E d 302 9 [l0, l1, l2, l3, l4] (.ref x :: st) σ = Rx E d 302 10 [l0, l1, ldrop l2, some (.ref x), l4] st σ) ∧
  (∀ (E : sV) (d : Nat) (l0 l1 l2 l3 l4 : Option Value) (st : List Value) (σ : sS), Rx E d 302 9 [l0, l1, l2, l3, l4] (.null :: st) σ = Rx E d 302 10 [l0, l1, ldrop l2, some (.null), l4] st σ) ∧
  (∀ (E : sV) (d : Nat) (l1 : Option Value) (l2 : Option Value) (l3 : Option Value) (l4 : Option Value) (x : Nat) (st : List Value) (σ : sS), Rx E d 302 10 [some (.ref x), l1, l2, l3, l4] st σ = Rx E d 302 11 [some (.ref x), l1, l2, l3, l4] (.ref x :: st) σ) ∧
  (∀ (E : sV) (d : Nat) (l1 : Option Value) (l2 : Option Value) (l3 : Option Value) (l4 : Option Value) (st : List Value) (σ : sS), Rx E d 302 10 [some (.null), l1, l2, l3, l4] st σ = Rx E d 302 11 [some (.null), l1, l2, l3, l4] (.null :: st) σ) ∧
  (∀ (E : sV) (d : Nat) (l0 l1 l2 l3 l4 : Option Value) (a : Nat) (st : List Value) (σ : sS), Rx E d 302 11 [l0, l1, l2, l3, l4] (.ref a :: st) σ = (gf σ.1 a 9 3).bind (fun v => Rx E d 302 14 [l0, l1, l2, l3, l4] (v :: st) σ)) ∧
  (∀ (E : sV) (d : Nat) (l0 : Option Value) (l1 : Option Value) (l2 : Option Value) (l4 : Option Value) (x : Nat) (st : List Value) (σ : sS), Rx E d 302 14 [l0, l1, l2, some (.ref x), l4] st σ = Rx E d 302 15 [l0, l1, l2, some (.ref x), l4] (.ref x :: st) σ) ∧
  (∀ (E : sV) (d : Nat) (l0 : Option Value) (l1 : Option Value) (l2 : Option Value) (l4 : Option Value) (st : List Value) (σ : sS), Rx E d 302 14 [l0, l1, l2, some (.null), l4] st σ = Rx E d 302 15 [l0, l1, l2, some (.null), l4] (.null :: st) σ) ∧
  (∀ (E : sV) (d : Nat) (l0 l1 l2 l3 l4 : Option Value) (a : Nat) (st : List Value) (σ : sS), Rx E d 302 15 [l0, l1, l2, l3, l4] (.ref a :: st) σ = (alen σ.1 a).bind (fun n => Rx E d 302 16 [l0, l1, l2, l3, l4] (.int n :: st) σ)) ∧
  (∀ (E : sV) (d : Nat) (l0 : Option Value) (l1 : Option Value) (l3 : Option Value) (l4 : Option Value) (x : Int32) (st : List Value) (σ : sS), Rx E d 302 16 [l0, l1, some (.int x), l3, l4] st σ = Rx E d 302 17 [l0, l1, some (.int x), l3, l4] (.int x :: st) σ) ∧
  (∀ (E : sV) (d : Nat) (l0 l1 l2 l3 l4 : Option Value) (x y : Int32) (st : List Value) (σ : sS), Rx E d 302 17 [l0, l1, l2, l3, l4] (.int y :: .int x :: st) σ = Rx E d 302 18 [l0, l1, l2, l3, l4] (.int (x >>> (y &&& 31)) :: st) σ) ∧
  (∀ (E : sV) (d : Nat) (l0 l1 l2 l3 l4 : Option Value) (x y : Int32) (st : List Value) (σ : sS), Rx E d 302 18 [l0, l1, l2, l3, l4] (.int y :: .int x :: st) σ = if cats st ≤ 8 then Rx E d 302 21 [l0, l1, l2, l3, l4] (.int (if y < x then y else x) :: st) σ else none) ∧
  (∀ (E : sV) (d : Nat) (l0 l1 l2 l3 l4 : Option Value) (x : Int32) (st : List Value) (σ : sS), Rx E d 302 21 [l0, l1, l2, l3, l4] (.int x :: st) σ = Rx E d 302 23 [l0, l1, l2, ldrop l3, some (.int x)] st σ) ∧
  (∀ (E : sV) (d : Nat) (l0 : Option Value) (l2 : Option Value) (l3 : Option Value) (l4 : Option Value) (x : Int32) (st : List Value) (σ : sS), Rx E d 302 23 [l0, some (.int x), l2, l3, l4] st σ = Rx E d 302 24 [l0, some (.int x), l2, l3, l4] (.int x :: st) σ) ∧
  (∀ (E : sV) (d : Nat) (l0 : Option Value) (l1 : Option Value) (l2 : Option Value) (l3 : Option Value) (x : Int32) (st : List Value) (σ : sS), Rx E d 302 24 [l0, l1, l2, l3, some (.int x)] st σ = Rx E d 302 26 [l0, l1, l2, l3, some (.int x)] (.int x :: st) σ) ∧
  (∀ (E : sV) (d : Nat) (l0 l1 l2 l3 l4 : Option Value) (v1 v2 : Value) (st : List Value) (σ : sS), Rx E d 302 26 [l0, l1, l2, l3, l4] (v2 :: v1 :: st) σ = if cats st ≤ 8 then callK (Mt E d 313 [v1, v2] σ) (fun v σ => Rx E d 302 29 [l0, l1, l2, l3, l4] (v.toList ++ st) σ) else none) ∧
  (∀ (E : sV) (d : Nat) (l0 : Option Value) (l1 : Option Value) (l3 : Option Value) (l4 : Option Value) (x : Int32) (st : List Value) (σ : sS), Rx E d 302 29 [l0, l1, some (.int x), l3, l4] st σ = Rx E d 302 30 [l0, l1, some (.int x), l3, l4] (.int x :: st) σ) ∧
  (∀ (E : sV) (d : Nat) (l0 l1 l2 l3 l4 : Option Value) (x : Int32) (st : List Value) (σ : sS), Rx E d 302 30 [l0, l1, l2, l3, l4] (.int x :: st) σ = if ¬ x = 0 then Rx E d 302 42 [l0, l1, l2, l3, l4] st σ else Rx E d 302 33 [l0, l1, l2, l3, l4] st σ) ∧
  (∀ (E : sV) (d : Nat) (l0 : Option Value) (l1 : Option Value) (l2 : Option Value) (l4 : Option Value) (x : Nat) (st : List Value) (σ : sS), Rx E d 302 33 [l0, l1, l2, some (.ref x), l4] st σ = Rx E d 302 34 [l0, l1, l2, some (.ref x), l4] (.ref x :: st) σ) ∧
  (∀ (E : sV) (d : Nat) (l0 : Option Value) (l1 : Option Value) (l2 : Option Value) (l4 : Option Value) (st : List Value) (σ : sS), Rx E d 302 33 [l0, l1, l2, some (.null), l4] st σ = Rx E d 302 34 [l0, l1, l2, some (.null), l4] (.null :: st) σ) ∧
  (∀ (E : sV) (d : Nat) (l0 : Option Value) (l2 : Option Value) (l3 : Option Value) (l4 : Option Value) (x : Int32) (st : List Value) (σ : sS), Rx E d 302 34 [l0, some (.int x), l2, l3, l4] st σ = Rx E d 302 35 [l0, some (.int x), l2, l3, l4] (.int x :: st) σ) ∧
  (∀ (E : sV) (d : Nat) (l0 l1 l2 l3 l4 : Option Value) (i : Int32) (a : Nat) (st : List Value) (σ : sS), Rx E d 302 35 [l0, l1, l2, l3, l4] (.int i :: .ref a :: st) σ = ((aldI .byte σ.1 a i).or (aldI .boolean σ.1 a i)).bind (fun v => Rx E d 302 36 [l0, l1, l2, l3, l4] (v :: st) σ)) ∧
  (∀ (E : sV) (d : Nat) (l0 l1 l2 l3 l4 : Option Value) (st : List Value) (σ : sS), Rx E d 302 36 [l0, l1, l2, l3, l4] st σ = Rx E d 302 39 [l0, l1, l2, l3, l4] (.int (255) :: st) σ) ∧
  (∀ (E : sV) (d : Nat) (l0 l1 l2 l3 l4 : Option Value) (x y : Int32) (st : List Value) (σ : sS), Rx E d 302 39 [l0, l1, l2, l3, l4] (.int y :: .int x :: st) σ = Rx E d 302 40 [l0, l1, l2, l3, l4] (.int (x &&& y) :: st) σ) := ⟨fun _ _ _ _ _ _ _ _ _ => Rx_of gMT_302 d302_0 rfl,
  fun _ _ _ _ _ _ _ _ => Rx_of gMT_302 d302_0 rfl,
  fun _ _ _ _ _ _ _ _ _ _ => Rx_getf gMT_302 d302_1 rfl rfl,
  fun _ _ _ _ _ _ _ _ _ _ => Rx_of gMT_302 d302_4 rfl,
  fun _ _ _ _ _ _ _ _ _ => Rx_of gMT_302 d302_5 rfl,
  fun _ _ _ _ _ _ _ _ => Rx_of gMT_302 d302_5 rfl,
  fun _ _ _ _ _ _ _ _ _ _ => Rx_getf gMT_302 d302_6 rfl rfl,
  fun _ _ _ _ _ _ _ _ _ _ => Rx_of gMT_302 d302_9 rfl,
  fun _ _ _ _ _ _ _ _ _ => Rx_of gMT_302 d302_9 rfl,
  fun _ _ _ _ _ _ _ _ _ => Rx_of gMT_302 d302_10 rfl,
  fun _ _ _ _ _ _ _ _ => Rx_of gMT_302 d302_10 rfl,
  fun _ _ _ _ _ _ _ _ _ _ => Rx_getf gMT_302 d302_11 rfl rfl,
  fun _ _ _ _ _ _ _ _ _ => Rx_of gMT_302 d302_14 rfl,
  fun _ _ _ _ _ _ _ _ => Rx_of gMT_302 d302_14 rfl,
  fun _ _ _ _ _ _ _ _ _ _ => Rx_alen gMT_302 d302_15 rfl,
  fun _ _ _ _ _ _ _ _ _ => Rx_of gMT_302 d302_16 rfl,
  fun _ _ _ _ _ _ _ _ _ _ _ => Rx_of gMT_302 d302_17 rfl,
  fun _ _ _ _ _ _ _ _ _ _ _ => Rx_min gMT_302 d302_18 rfl rfl rfl,
  fun _ _ _ _ _ _ _ _ _ _ => Rx_of gMT_302 d302_21 rfl,
  fun _ _ _ _ _ _ _ _ _ => Rx_of gMT_302 d302_23 rfl,
  fun _ _ _ _ _ _ _ _ _ => Rx_of gMT_302 d302_24 rfl,
  fun _ _ _ _ _ _ _ _ _ _ _ => Rx_callS gMT_302 d302_26 rfl rfl rfl rfl rfl,
  fun _ _ _ _ _ _ _ _ _ => Rx_of gMT_302 d302_29 rfl,
  fun _ _ _ _ _ _ _ _ _ _ => Rx_if gMT_302 d302_30 rfl rfl (by decide),
  fun _ _ _ _ _ _ _ _ _ => Rx_of gMT_302 d302_33 rfl,
  fun _ _ _ _ _ _ _ _ => Rx_of gMT_302 d302_33 rfl,
  fun _ _ _ _ _ _ _ _ _ => Rx_of gMT_302 d302_34 rfl,
  fun _ _ _ _ _ _ _ _ _ _ _ => Rx_ald gMT_302 d302_35 rfl rfl,
  fun _ _ _ _ _ _ _ _ _ => Rx_of gMT_302 d302_36 rfl,
  fun _ _ _ _ _ _ _ _ _ _ _ => Rx_of gMT_302 d302_39 rfl⟩
theorem QASB_charAt_1 : (∀ (E : sV) (d : Nat) (l0 l1 l2 l3 l4 : Option Value) (x : Int32) (st : List Value) (σ : sS), Rx E d 302 40 [l0, l1, l2, l3, l4] (.int x :: st) σ = Rx E d 302 41 [l0, l1, l2, l3, l4] (.int (x.toUInt32 % 65536).toInt32 :: st) σ) ∧
  (∀ (E : sV) (d : Nat) (l0 l1 l2 l3 l4 : Option Value) (v : Int32) (σ : sS), Rx E d 302 41 [l0, l1, l2, l3, l4] [.int v] σ = if narrow .char (.int v) = .int v then some (.inl (some (.int v)), σ) else none) ∧
  (∀ (E : sV) (d : Nat) (l0 : Option Value) (l1 : Option Value) (l2 : Option Value) (l4 : Option Value) (x : Nat) (st : List Value) (σ : sS), Rx E d 302 42 [l0, l1, l2, some (.ref x), l4] st σ = Rx E d 302 43 [l0, l1, l2, some (.ref x), l4] (.ref x :: st) σ) ∧
  (∀ (E : sV) (d : Nat) (l0 : Option Value) (l1 : Option Value) (l2 : Option Value) (l4 : Option Value) (st : List Value) (σ : sS), Rx E d 302 42 [l0, l1, l2, some (.null), l4] st σ = Rx E d 302 43 [l0, l1, l2, some (.null), l4] (.null :: st) σ) ∧
  (∀ (E : sV) (d : Nat) (l0 : Option Value) (l2 : Option Value) (l3 : Option Value) (l4 : Option Value) (x : Int32) (st : List Value) (σ : sS), Rx E d 302 43 [l0, some (.int x), l2, l3, l4] st σ = Rx E d 302 44 [l0, some (.int x), l2, l3, l4] (.int x :: st) σ) ∧
  (∀ (E : sV) (d : Nat) (l0 l1 l2 l3 l4 : Option Value) (v : Int32) (σ : sS), Rx E d 302 47 [l0, l1, l2, l3, l4] [.int v] σ = if narrow .char (.int v) = .int v then some (.inl (some (.int v)), σ) else none) := ⟨fun _ _ _ _ _ _ _ _ _ _ => Rx_of gMT_302 d302_40 rfl,
  fun _ _ _ _ _ _ _ _ _ => Rx_iret gMT_302 d302_41 rfl rfl,
  fun _ _ _ _ _ _ _ _ _ => Rx_of gMT_302 d302_42 rfl,
  fun _ _ _ _ _ _ _ _ => Rx_of gMT_302 d302_42 rfl,
  fun _ _ _ _ _ _ _ _ _ => Rx_of gMT_302 d302_43 rfl,
  fun _ _ _ _ _ _ _ _ _ => Rx_iret gMT_302 d302_47 rfl rfl⟩
-- QASB_charAt: QASB_charAt_0, QASB_charAt_1
theorem NASB_charAt (E : sV) (d : Nat) (a0 : Nat) (a1 : Int32) (σ : sS) : Mt E (d + 1) 302 [.ref a0, .int a1] σ = Rx E d 302 0 [some (.ref a0), some (.int a1), none, none, none] [] σ := Mt_succ gMT_302 (Nat.le_of_ble_eq_true rfl)
theorem QSB_init_0 : (∀ (E : sV) (d : Nat) (x : Nat) (st : List Value) (σ : sS), Rx E d 303 0 [some (.ref x)] st σ = Rx E d 303 1 [some (.ref x)] (.ref x :: st) σ) ∧
  (∀ (E : sV) (d : Nat) (st : List Value) (σ : sS), Rx E d 303 0 [some (.null)] st σ = Rx E d 303 1 [some (.null)] (.null :: st) σ) ∧
  (∀ (E : sV) (d : Nat) (l0 : Option Value) (st : List Value) (σ : sS), Rx E d 303 1 [l0] st σ = Rx E d 303 3 [l0] (.int (16) :: st) σ) ∧
  (∀ (E : sV) (d : Nat) (l0 : Option Value) (v1 : Value) (b : Nat) (st : List Value) (σ : sS), Rx E d 303 3 [l0] (v1 :: .ref b :: st) σ = if cats st ≤ 8 then callR (Mt E d 291 [.ref b, v1] σ) (fun v σ => Rx E d 303 6 [l0] (v.toList ++ st) σ) else none) ∧
  (∀ (E : sV) (d : Nat) (l0 : Option Value) (σ : sS), Rx E d 303 6 [l0] [] σ = some (.inl none, σ)) := ⟨fun _ _ _ _ _ => Rx_of gMT_303 d303_0 rfl,
  fun _ _ _ _ => Rx_of gMT_303 d303_0 rfl,
  fun _ _ _ _ _ => Rx_of gMT_303 d303_1 rfl,
  fun _ _ _ _ _ _ _ => Rx_callI gMT_303 d303_3 rfl rfl rfl (by decide) rfl,
  fun _ _ _ _ => Rx_vret gMT_303 d303_6 rfl rfl⟩
-- QSB_init: QSB_init_0
theorem NSB_init (E : sV) (d : Nat) (a0 : Nat) (σ : sS) : Mt E (d + 1) 303 [.ref a0] σ = Rx E d 303 0 [some (.ref a0)] [] σ := Mt_succ gMT_303 (Nat.le_of_ble_eq_true rfl)
theorem QSB_setLength_0 : (∀ (E : sV) (d : Nat) (l1 : Option Value) (x : Nat) (st : List Value) (σ : sS), Rx E d 304 0 [some (.ref x), l1] st σ = Rx E d 304 1 [some (.ref x), l1] (.ref x :: st) σ) ∧
  (∀ (E : sV) (d : Nat) (l1 : Option Value) (st : List Value) (σ : sS), Rx E d 304 0 [some (.null), l1] st σ = Rx E d 304 1 [some (.null), l1] (.null :: st) σ) ∧
  (∀ (E : sV) (d : Nat) (l0 : Option Value) (x : Int32) (st : List Value) (σ : sS), Rx E d 304 1 [l0, some (.int x)] st σ = Rx E d 304 2 [l0, some (.int x)] (.int x :: st) σ) ∧
  (∀ (E : sV) (d : Nat) (l0 l1 : Option Value) (v1 : Value) (b : Nat) (st : List Value) (σ : sS), Rx E d 304 2 [l0, l1] (v1 :: .ref b :: st) σ = if cats st ≤ 8 ∧ isOb σ.1 b 9 = true then callR (Mt E d 292 [.ref b, v1] σ) (fun v σ => Rx E d 304 5 [l0, l1] (v.toList ++ st) σ) else none) ∧
  (∀ (E : sV) (d : Nat) (l0 l1 : Option Value) (σ : sS), Rx E d 304 5 [l0, l1] [] σ = some (.inl none, σ)) := ⟨fun _ _ _ _ _ _ => Rx_of gMT_304 d304_0 rfl,
  fun _ _ _ _ _ => Rx_of gMT_304 d304_0 rfl,
  fun _ _ _ _ _ _ => Rx_of gMT_304 d304_1 rfl,
  fun _ _ _ _ _ _ _ _ => Rx_callP gMT_304 d304_2 rfl rfl rfl rfl rfl,
  fun _ _ _ _ _ => Rx_vret gMT_304 d304_5 rfl rfl⟩
-- QSB_setLength: QSB_setLength_0
theorem NSB_setLength (E : sV) (d : Nat) (a0 : Nat) (a1 : Int32) (σ : sS) : Mt E (d + 1) 304 [.ref a0, .int a1] σ = Rx E d 304 0 [some (.ref a0), some (.int a1)] [] σ := Mt_succ gMT_304 (Nat.le_of_ble_eq_true rfl)
theorem QSB_append_0 : (∀ (E : sV) (d : Nat) (l1 : Option Value) (x : Nat) (st : List Value) (σ : sS), Rx E d 305 0 [some (.ref x), l1] st σ = Rx E d 305 1 [some (.ref x), l1] (.ref x :: st) σ) ∧
  (∀ (E : sV) (d : Nat) (l1 : Option Value) (st : List Value) (σ : sS), Rx E d 305 0 [some (.null), l1] st σ = Rx E d 305 1 [some (.null), l1] (.null :: st) σ) ∧
  (∀ (E : sV) (d : Nat) (l0 : Option Value) (x : Nat) (st : List Value) (σ : sS), Rx E d 305 1 [l0, some (.ref x)] st σ = Rx E d 305 2 [l0, some (.ref x)] (.ref x :: st) σ) ∧
  (∀ (E : sV) (d : Nat) (l0 : Option Value) (st : List Value) (σ : sS), Rx E d 305 1 [l0, some (.null)] st σ = Rx E d 305 2 [l0, some (.null)] (.null :: st) σ) ∧
  (∀ (E : sV) (d : Nat) (l0 l1 : Option Value) (v1 : Value) (b : Nat) (st : List Value) (σ : sS), Rx E d 305 2 [l0, l1] (v1 :: .ref b :: st) σ = if cats st ≤ 8 ∧ isOb σ.1 b 9 = true then callR (Mt E d 293 [.ref b, v1] σ) (fun v σ => Rx E d 305 5 [l0, l1] (v.toList ++ st) σ) else none) ∧
  (∀ (E : sV) (d : Nat) (l0 l1 : Option Value) (x : Nat) (st : List Value) (σ : sS), Rx E d 305 5 [l0, l1] (.ref x :: st) σ = Rx E d 305 6 [l0, l1] st σ) ∧
  (∀ (E : sV) (d : Nat) (l0 l1 : Option Value) (x : Int32) (st : List Value) (σ : sS), Rx E d 305 5 [l0, l1] (.int x :: st) σ = Rx E d 305 6 [l0, l1] st σ) ∧
  (∀ (E : sV) (d : Nat) (l1 : Option Value) (x : Nat) (st : List Value) (σ : sS), Rx E d 305 6 [some (.ref x), l1] st σ = Rx E d 305 7 [some (.ref x), l1] (.ref x :: st) σ) ∧
  (∀ (E : sV) (d : Nat) (l1 : Option Value) (st : List Value) (σ : sS), Rx E d 305 6 [some (.null), l1] st σ = Rx E d 305 7 [some (.null), l1] (.null :: st) σ) ∧
  (∀ (E : sV) (d : Nat) (l0 l1 : Option Value) (a : Nat) (σ : sS), Rx E d 305 7 [l0, l1] [.ref a] σ = some (.inl (some (.ref a)), σ)) ∧
  (∀ (E : sV) (d : Nat) (l0 l1 : Option Value) (σ : sS), Rx E d 305 7 [l0, l1] [.null] σ = some (.inl (some .null), σ)) := ⟨fun _ _ _ _ _ _ => Rx_of gMT_305 d305_0 rfl,
  fun _ _ _ _ _ => Rx_of gMT_305 d305_0 rfl,
  fun _ _ _ _ _ _ => Rx_of gMT_305 d305_1 rfl,
  fun _ _ _ _ _ => Rx_of gMT_305 d305_1 rfl,
  fun _ _ _ _ _ _ _ _ => Rx_callP gMT_305 d305_2 rfl rfl rfl rfl rfl,
  fun _ _ _ _ _ _ _ => Rx_of gMT_305 d305_5 rfl,
  fun _ _ _ _ _ _ _ => Rx_of gMT_305 d305_5 rfl,
  fun _ _ _ _ _ _ => Rx_of gMT_305 d305_6 rfl,
  fun _ _ _ _ _ => Rx_of gMT_305 d305_6 rfl,
  fun _ _ _ _ _ _ => Rx_aret gMT_305 d305_7 rfl (Or.inl ⟨_, rfl⟩),
  fun _ _ _ _ _ => Rx_aretN gMT_305 d305_7 rfl (Or.inl ⟨_, rfl⟩)⟩
-- QSB_append: QSB_append_0
theorem NSB_append (E : sV) (d : Nat) (a0 : Nat) (a1 : Nat) (σ : sS) : Mt E (d + 1) 305 [.ref a0, .ref a1] σ = Rx E d 305 0 [some (.ref a0), some (.ref a1)] [] σ := Mt_succ gMT_305 (Nat.le_of_ble_eq_true rfl)
theorem QSB_append_1_0 : (∀ (E : sV) (d : Nat) (l1 : Option Value) (x : Nat) (st : List Value) (σ : sS), Rx E d 306 0 [some (.ref x), l1] st σ = Rx E d 306 1 [some (.ref x), l1] (.ref x :: st) σ) ∧
  (∀ (E : sV) (d : Nat) (l1 : Option Value) (st : List Value) (σ : sS), Rx E d 306 0 [some (.null), l1] st σ = Rx E d 306 1 [some (.null), l1] (.null :: st) σ) ∧
  (∀ (E : sV) (d : Nat) (l0 : Option Value) (x : Int32) (st : List Value) (σ : sS), Rx E d 306 1 [l0, some (.int x)] st σ = Rx E d 306 2 [l0, some (.int x)] (.int x :: st) σ) ∧
  (∀ (E : sV) (d : Nat) (l0 l1 : Option Value) (v1 : Value) (b : Nat) (st : List Value) (σ : sS), Rx E d 306 2 [l0, l1] (v1 :: .ref b :: st) σ = if cats st ≤ 8 ∧ isOb σ.1 b 9 = true then callR (Mt E d 299 [.ref b, v1] σ) (fun v σ => Rx E d 306 5 [l0, l1] (v.toList ++ st) σ) else none) ∧
  (∀ (E : sV) (d : Nat) (l0 l1 : Option Value) (x : Nat) (st : List Value) (σ : sS), Rx E d 306 5 [l0, l1] (.ref x :: st) σ = Rx E d 306 6 [l0, l1] st σ) ∧
  (∀ (E : sV) (d : Nat) (l0 l1 : Option Value) (x : Int32) (st : List Value) (σ : sS), Rx E d 306 5 [l0, l1] (.int x :: st) σ = Rx E d 306 6 [l0, l1] st σ) ∧
  (∀ (E : sV) (d : Nat) (l1 : Option Value) (x : Nat) (st : List Value) (σ : sS), Rx E d 306 6 [some (.ref x), l1] st σ = Rx E d 306 7 [some (.ref x), l1] (.ref x :: st) σ) ∧
  (∀ (E : sV) (d : Nat) (l1 : Option Value) (st : List Value) (σ : sS), Rx E d 306 6 [some (.null), l1] st σ = Rx E d 306 7 [some (.null), l1] (.null :: st) σ) ∧
  (∀ (E : sV) (d : Nat) (l0 l1 : Option Value) (a : Nat) (σ : sS), Rx E d 306 7 [l0, l1] [.ref a] σ = some (.inl (some (.ref a)), σ)) ∧
  (∀ (E : sV) (d : Nat) (l0 l1 : Option Value) (σ : sS), Rx E d 306 7 [l0, l1] [.null] σ = some (.inl (some .null), σ)) := ⟨fun _ _ _ _ _ _ => Rx_of gMT_306 d306_0 rfl,
  fun _ _ _ _ _ => Rx_of gMT_306 d306_0 rfl,
  fun _ _ _ _ _ _ => Rx_of gMT_306 d306_1 rfl,
  fun _ _ _ _ _ _ _ _ => Rx_callP gMT_306 d306_2 rfl rfl rfl rfl rfl,
  fun _ _ _ _ _ _ _ => Rx_of gMT_306 d306_5 rfl,
  fun _ _ _ _ _ _ _ => Rx_of gMT_306 d306_5 rfl,
  fun _ _ _ _ _ _ => Rx_of gMT_306 d306_6 rfl,
  fun _ _ _ _ _ => Rx_of gMT_306 d306_6 rfl,
  fun _ _ _ _ _ _ => Rx_aret gMT_306 d306_7 rfl (Or.inl ⟨_, rfl⟩),
  fun _ _ _ _ _ => Rx_aretN gMT_306 d306_7 rfl (Or.inl ⟨_, rfl⟩)⟩
-- QSB_append_1: QSB_append_1_0
theorem NSB_append_1 (E : sV) (d : Nat) (a0 : Nat) (a1 : Int32) (σ : sS) : Mt E (d + 1) 306 [.ref a0, .int a1] σ = Rx E d 306 0 [some (.ref a0), some (.int a1)] [] σ := Mt_succ gMT_306 (Nat.le_of_ble_eq_true rfl)
theorem QSB_length_0 : (∀ (E : sV) (d : Nat) (x : Nat) (st : List Value) (σ : sS), Rx E d 307 0 [some (.ref x)] st σ = Rx E d 307 1 [some (.ref x)] (.ref x :: st) σ) ∧
  (∀ (E : sV) (d : Nat) (st : List Value) (σ : sS), Rx E d 307 0 [some (.null)] st σ = Rx E d 307 1 [some (.null)] (.null :: st) σ) ∧
  (∀ (E : sV) (d : Nat) (l0 : Option Value) (b : Nat) (st : List Value) (σ : sS), Rx E d 307 1 [l0] (.ref b :: st) σ = if cats st ≤ 8 ∧ isOb σ.1 b 9 = true then callR (Mt E d 300 [.ref b] σ) (fun v σ => Rx E d 307 4 [l0] (v.toList ++ st) σ) else none) ∧
  (∀ (E : sV) (d : Nat) (l0 : Option Value) (v : Int32) (σ : sS), Rx E d 307 4 [l0] [.int v] σ = some (.inl (some (.int v)), σ)) := ⟨fun _ _ _ _ _ => Rx_of gMT_307 d307_0 rfl,
  fun _ _ _ _ => Rx_of gMT_307 d307_0 rfl,
  fun _ _ _ _ _ _ => Rx_callP gMT_307 d307_1 rfl rfl rfl rfl rfl,
  fun _ _ _ _ _ => Rx_iretI gMT_307 d307_4 rfl rfl⟩
-- QSB_length: QSB_length_0
theorem NSB_length (E : sV) (d : Nat) (a0 : Nat) (σ : sS) : Mt E (d + 1) 307 [.ref a0] σ = Rx E d 307 0 [some (.ref a0)] [] σ := Mt_succ gMT_307 (Nat.le_of_ble_eq_true rfl)
theorem QSB_append_2_0 : (∀ (E : sV) (d : Nat) (l1 : Option Value) (x : Nat) (st : List Value) (σ : sS), Rx E d 308 0 [some (.ref x), l1] st σ = Rx E d 308 1 [some (.ref x), l1] (.ref x :: st) σ) ∧
  (∀ (E : sV) (d : Nat) (l1 : Option Value) (st : List Value) (σ : sS), Rx E d 308 0 [some (.null), l1] st σ = Rx E d 308 1 [some (.null), l1] (.null :: st) σ) ∧
  (∀ (E : sV) (d : Nat) (l0 : Option Value) (x : Int32) (st : List Value) (σ : sS), Rx E d 308 1 [l0, some (.int x)] st σ = Rx E d 308 2 [l0, some (.int x)] (.int x :: st) σ) ∧
  (∀ (E : sV) (d : Nat) (l0 l1 : Option Value) (v1 : Value) (b : Nat) (st : List Value) (σ : sS), Rx E d 308 2 [l0, l1] (v1 :: .ref b :: st) σ = if cats st ≤ 8 ∧ isOb σ.1 b 9 = true then callR (Mt E d 301 [.ref b, v1] σ) (fun v σ => Rx E d 308 5 [l0, l1] (v.toList ++ st) σ) else none) ∧
  (∀ (E : sV) (d : Nat) (l0 l1 : Option Value) (x : Nat) (st : List Value) (σ : sS), Rx E d 308 5 [l0, l1] (.ref x :: st) σ = Rx E d 308 6 [l0, l1] st σ) ∧
  (∀ (E : sV) (d : Nat) (l0 l1 : Option Value) (x : Int32) (st : List Value) (σ : sS), Rx E d 308 5 [l0, l1] (.int x :: st) σ = Rx E d 308 6 [l0, l1] st σ) ∧
  (∀ (E : sV) (d : Nat) (l1 : Option Value) (x : Nat) (st : List Value) (σ : sS), Rx E d 308 6 [some (.ref x), l1] st σ = Rx E d 308 7 [some (.ref x), l1] (.ref x :: st) σ) ∧
  (∀ (E : sV) (d : Nat) (l1 : Option Value) (st : List Value) (σ : sS), Rx E d 308 6 [some (.null), l1] st σ = Rx E d 308 7 [some (.null), l1] (.null :: st) σ) ∧
  (∀ (E : sV) (d : Nat) (l0 l1 : Option Value) (a : Nat) (σ : sS), Rx E d 308 7 [l0, l1] [.ref a] σ = some (.inl (some (.ref a)), σ)) ∧
  (∀ (E : sV) (d : Nat) (l0 l1 : Option Value) (σ : sS), Rx E d 308 7 [l0, l1] [.null] σ = some (.inl (some .null), σ)) := ⟨fun _ _ _ _ _ _ => Rx_of gMT_308 d308_0 rfl,
  fun _ _ _ _ _ => Rx_of gMT_308 d308_0 rfl,
  fun _ _ _ _ _ _ => Rx_of gMT_308 d308_1 rfl,
  fun _ _ _ _ _ _ _ _ => Rx_callP gMT_308 d308_2 rfl rfl rfl rfl rfl,
  fun _ _ _ _ _ _ _ => Rx_of gMT_308 d308_5 rfl,
  fun _ _ _ _ _ _ _ => Rx_of gMT_308 d308_5 rfl,
  fun _ _ _ _ _ _ => Rx_of gMT_308 d308_6 rfl,
  fun _ _ _ _ _ => Rx_of gMT_308 d308_6 rfl,
  fun _ _ _ _ _ _ => Rx_aret gMT_308 d308_7 rfl (Or.inl ⟨_, rfl⟩),
  fun _ _ _ _ _ => Rx_aretN gMT_308 d308_7 rfl (Or.inl ⟨_, rfl⟩)⟩
-- QSB_append_2: QSB_append_2_0
theorem NSB_append_2 (E : sV) (d : Nat) (a0 : Nat) (a1 : Int32) (σ : sS) : Mt E (d + 1) 308 [.ref a0, .int a1] σ = Rx E d 308 0 [some (.ref a0), some (.int a1)] [] σ := Mt_succ gMT_308 (Nat.le_of_ble_eq_true rfl)
theorem QSB_charAt_0 : (∀ (E : sV) (d : Nat) (l1 : Option Value) (x : Nat) (st : List Value) (σ : sS), Rx E d 309 0 [some (.ref x), l1] st σ = Rx E d 309 1 [some (.ref x), l1] (.ref x :: st) σ) ∧
  (∀ (E : sV) (d : Nat) (l1 : Option Value) (st : List Value) (σ : sS), Rx E d 309 0 [some (.null), l1] st σ = Rx E d 309 1 [some (.null), l1] (.null :: st) σ) ∧
  (∀ (E : sV) (d : Nat) (l0 : Option Value) (x : Int32) (st : List Value) (σ : sS), Rx E d 309 1 [l0, some (.int x)] st σ = Rx E d 309 2 [l0, some (.int x)] (.int x :: st) σ) ∧
  (∀ (E : sV) (d : Nat) (l0 l1 : Option Value) (v1 : Value) (b : Nat) (st : List Value) (σ : sS), Rx E d 309 2 [l0, l1] (v1 :: .ref b :: st) σ = if cats st ≤ 8 ∧ isOb σ.1 b 9 = true then callR (Mt E d 302 [.ref b, v1] σ) (fun v σ => Rx E d 309 5 [l0, l1] (v.toList ++ st) σ) else none) ∧
  (∀ (E : sV) (d : Nat) (l0 l1 : Option Value) (v : Int32) (σ : sS), Rx E d 309 5 [l0, l1] [.int v] σ = if narrow .char (.int v) = .int v then some (.inl (some (.int v)), σ) else none) := ⟨fun _ _ _ _ _ _ => Rx_of gMT_309 d309_0 rfl,
  fun _ _ _ _ _ => Rx_of gMT_309 d309_0 rfl,
  fun _ _ _ _ _ _ => Rx_of gMT_309 d309_1 rfl,
  fun _ _ _ _ _ _ _ _ => Rx_callP gMT_309 d309_2 rfl rfl rfl rfl rfl,
  fun _ _ _ _ _ _ => Rx_iret gMT_309 d309_5 rfl rfl⟩
-- QSB_charAt: QSB_charAt_0
theorem NSB_charAt (E : sV) (d : Nat) (a0 : Nat) (a1 : Int32) (σ : sS) : Mt E (d + 1) 309 [.ref a0, .int a1] σ = Rx E d 309 0 [some (.ref a0), some (.int a1)] [] σ := Mt_succ gMT_309 (Nat.le_of_ble_eq_true rfl)
theorem QString_length_0 : (∀ (E : sV) (d : Nat) (x : Nat) (st : List Value) (σ : sS), Rx E d 310 0 [some (.ref x)] st σ = Rx E d 310 1 [some (.ref x)] (.ref x :: st) σ) ∧
  (∀ (E : sV) (d : Nat) (st : List Value) (σ : sS), Rx E d 310 0 [some (.null)] st σ = Rx E d 310 1 [some (.null)] (.null :: st) σ) ∧
  (∀ (E : sV) (d : Nat) (l0 : Option Value) (a : Nat) (st : List Value) (σ : sS), Rx E d 310 1 [l0] (.ref a :: st) σ = (gf σ.1 a 10 0).bind (fun v => Rx E d 310 4 [l0] (v :: st) σ)) ∧
  (∀ (E : sV) (d : Nat) (l0 : Option Value) (a : Nat) (st : List Value) (σ : sS), Rx E d 310 4 [l0] (.ref a :: st) σ = (alen σ.1 a).bind (fun n => Rx E d 310 5 [l0] (.int n :: st) σ)) ∧
  (∀ (E : sV) (d : Nat) (x : Nat) (st : List Value) (σ : sS), Rx E d 310 5 [some (.ref x)] st σ = Rx E d 310 6 [some (.ref x)] (.ref x :: st) σ) ∧
  (∀ (E : sV) (d : Nat) (st : List Value) (σ : sS), Rx E d 310 5 [some (.null)] st σ = Rx E d 310 6 [some (.null)] (.null :: st) σ) ∧
  (∀ (E : sV) (d : Nat) (l0 : Option Value) (b : Nat) (st : List Value) (σ : sS), Rx E d 310 6 [l0] (.ref b :: st) σ = if cats st ≤ 8 ∧ isOb σ.1 b 10 = true then callK (Mt E d 311 [.ref b] σ) (fun v σ => Rx E d 310 9 [l0] (v.toList ++ st) σ) else none) ∧
  (∀ (E : sV) (d : Nat) (l0 : Option Value) (x y : Int32) (st : List Value) (σ : sS), Rx E d 310 9 [l0] (.int y :: .int x :: st) σ = Rx E d 310 10 [l0] (.int (x >>> (y &&& 31)) :: st) σ) ∧
  (∀ (E : sV) (d : Nat) (l0 : Option Value) (v : Int32) (σ : sS), Rx E d 310 10 [l0] [.int v] σ = some (.inl (some (.int v)), σ)) := ⟨fun _ _ _ _ _ => Rx_of gMT_310 d310_0 rfl,
  fun _ _ _ _ => Rx_of gMT_310 d310_0 rfl,
  fun _ _ _ _ _ _ => Rx_getf gMT_310 d310_1 rfl rfl,
  fun _ _ _ _ _ _ => Rx_alen gMT_310 d310_4 rfl,
  fun _ _ _ _ _ => Rx_of gMT_310 d310_5 rfl,
  fun _ _ _ _ => Rx_of gMT_310 d310_5 rfl,
  fun _ _ _ _ _ _ => Rx_callV gMT_310 d310_6 rfl rfl rfl rfl rfl,
  fun _ _ _ _ _ _ _ => Rx_of gMT_310 d310_9 rfl,
  fun _ _ _ _ _ => Rx_iretI gMT_310 d310_10 rfl rfl⟩
-- QString_length: QString_length_0
theorem NString_length (E : sV) (d : Nat) (a0 : Nat) (σ : sS) : Mt E (d + 1) 310 [.ref a0] σ = Rx E d 310 0 [some (.ref a0)] [] σ := Mt_succ gMT_310 (Nat.le_of_ble_eq_true rfl)
theorem QString_coder_0 : (∀ (E : sV) (d : Nat) (l0 : Option Value) (st : List Value) (σ : sS), Rx E d 311 0 [l0] st σ = Rx E d 311 3 [l0] (E.2 0 :: st) σ) ∧
  (∀ (E : sV) (d : Nat) (l0 : Option Value) (x : Int32) (st : List Value) (σ : sS), Rx E d 311 3 [l0] (.int x :: st) σ = if x = 0 then Rx E d 311 13 [l0] st σ else Rx E d 311 6 [l0] st σ) ∧
  (∀ (E : sV) (d : Nat) (x : Nat) (st : List Value) (σ : sS), Rx E d 311 6 [some (.ref x)] st σ = Rx E d 311 7 [some (.ref x)] (.ref x :: st) σ) ∧
  (∀ (E : sV) (d : Nat) (st : List Value) (σ : sS), Rx E d 311 6 [some (.null)] st σ = Rx E d 311 7 [some (.null)] (.null :: st) σ) ∧
  (∀ (E : sV) (d : Nat) (l0 : Option Value) (a : Nat) (st : List Value) (σ : sS), Rx E d 311 7 [l0] (.ref a :: st) σ = (gf σ.1 a 10 1).bind (fun v => Rx E d 311 10 [l0] (v :: st) σ)) ∧
  (∀ (E : sV) (d : Nat) (l0 : Option Value) (st : List Value) (σ : sS), Rx E d 311 10 [l0] st σ = Rx E d 311 14 [l0] st σ) ∧
  (∀ (E : sV) (d : Nat) (l0 : Option Value) (st : List Value) (σ : sS), Rx E d 311 13 [l0] st σ = Rx E d 311 14 [l0] (.int (1) :: st) σ) ∧
  (∀ (E : sV) (d : Nat) (l0 : Option Value) (v : Int32) (σ : sS), Rx E d 311 14 [l0] [.int v] σ = if narrow .byte (.int v) = .int v then some (.inl (some (.int v)), σ) else none) := ⟨fun _ _ _ _ _ => Rx_gets gMT_311 d311_0 rfl rfl,
  fun _ _ _ _ _ _ => Rx_if gMT_311 d311_3 rfl rfl (by decide),
  fun _ _ _ _ _ => Rx_of gMT_311 d311_6 rfl,
  fun _ _ _ _ => Rx_of gMT_311 d311_6 rfl,
  fun _ _ _ _ _ _ => Rx_getf gMT_311 d311_7 rfl rfl,
  fun _ _ _ _ _ => Rx_goto gMT_311 d311_10 rfl (by decide),
  fun _ _ _ _ _ => Rx_of gMT_311 d311_13 rfl,
  fun _ _ _ _ _ => Rx_iret gMT_311 d311_14 rfl rfl⟩
-- QString_coder: QString_coder_0
theorem NString_coder (E : sV) (d : Nat) (a0 : Nat) (σ : sS) : Mt E (d + 1) 311 [.ref a0] σ = Rx E d 311 0 [some (.ref a0)] [] σ := Mt_succ gMT_311 (Nat.le_of_ble_eq_true rfl)
theorem QString_getBytes_0 : (∀ (E : sV) (d : Nat) (l1 : Option Value) (l2 : Option Value) (l3 : Option Value) (x : Nat) (st : List Value) (σ : sS), Rx E d 312 0 [some (.ref x), l1, l2, l3] st σ = Rx E d 312 1 [some (.ref x), l1, l2, l3] (.ref x :: st) σ) ∧
  (∀ (E : sV) (d : Nat) (l1 : Option Value) (l2 : Option Value) (l3 : Option Value) (st : List Value) (σ : sS), Rx E d 312 0 [some (.null), l1, l2, l3] st σ = Rx E d 312 1 [some (.null), l1, l2, l3] (.null :: st) σ) ∧
  (∀ (E : sV) (d : Nat) (l0 l1 l2 l3 : Option Value) (b : Nat) (st : List Value) (σ : sS), Rx E d 312 1 [l0, l1, l2, l3] (.ref b :: st) σ = if cats st ≤ 8 ∧ isOb σ.1 b 10 = true then callK (Mt E d 311 [.ref b] σ) (fun v σ => Rx E d 312 4 [l0, l1, l2, l3] (v.toList ++ st) σ) else none) ∧
  (∀ (E : sV) (d : Nat) (l0 : Option Value) (l1 : Option Value) (l2 : Option Value) (x : Int32) (st : List Value) (σ : sS), Rx E d 312 4 [l0, l1, l2, some (.int x)] st σ = Rx E d 312 5 [l0, l1, l2, some (.int x)] (.int x :: st) σ) ∧
  (∀ (E : sV) (d : Nat) (l0 l1 l2 l3 : Option Value) (x y : Int32) (st : List Value) (σ : sS), Rx E d 312 5 [l0, l1, l2, l3] (.int y :: .int x :: st) σ = if ¬ x = y then Rx E d 312 28 [l0, l1, l2, l3] st σ else Rx E d 312 8 [l0, l1, l2, l3] st σ) ∧
  (∀ (E : sV) (d : Nat) (l1 : Option Value) (l2 : Option Value) (l3 : Option Value) (x : Nat) (st : List Value) (σ : sS), Rx E d 312 8 [some (.ref x), l1, l2, l3] st σ = Rx E d 312 9 [some (.ref x), l1, l2, l3] (.ref x :: st) σ) ∧
  (∀ (E : sV) (d : Nat) (l1 : Option Value) (l2 : Option Value) (l3 : Option Value) (st : List Value) (σ : sS), Rx E d 312 8 [some (.null), l1, l2, l3] st σ = Rx E d 312 9 [some (.null), l1, l2, l3] (.null :: st) σ) ∧
  (∀ (E : sV) (d : Nat) (l0 l1 l2 l3 : Option Value) (a : Nat) (st : List Value) (σ : sS), Rx E d 312 9 [l0, l1, l2, l3] (.ref a :: st) σ = (gf σ.1 a 10 0).bind (fun v => Rx E d 312 12 [l0, l1, l2, l3] (v :: st) σ)) ∧
  (∀ (E : sV) (d : Nat) (l0 l1 l2 l3 : Option Value) (st : List Value) (σ : sS), Rx E d 312 12 [l0, l1, l2, l3] st σ = Rx E d 312 13 [l0, l1, l2, l3] (.int (0) :: st) σ) ∧
  (∀ (E : sV) (d : Nat) (l0 : Option Value) (l2 : Option Value) (l3 : Option Value) (x : Nat) (st : List Value) (σ : sS), Rx E d 312 13 [l0, some (.ref x), l2, l3] st σ = Rx E d 312 14 [l0, some (.ref x), l2, l3] (.ref x :: st) σ) ∧
  (∀ (E : sV) (d : Nat) (l0 : Option Value) (l2 : Option Value) (l3 : Option Value) (st : List Value) (σ : sS), Rx E d 312 13 [l0, some (.null), l2, l3] st σ = Rx E d 312 14 [l0, some (.null), l2, l3] (.null :: st) σ) ∧
  (∀ (E : sV) (d : Nat) (l0 : Option Value) (l1 : Option Value) (l3 : Option Value) (x : Int32) (st : List Value) (σ : sS), Rx E d 312 14 [l0, l1, some (.int x), l3] st σ = Rx E d 312 15 [l0, l1, some (.int x), l3] (.int x :: st) σ) ∧
  (∀ (E : sV) (d : Nat) (l0 : Option Value) (l1 : Option Value) (l2 : Option Value) (x : Int32) (st : List Value) (σ : sS), Rx E d 312 15 [l0, l1, l2, some (.int x)] st σ = Rx E d 312 16 [l0, l1, l2, some (.int x)] (.int x :: st) σ) ∧
  (∀ (E : sV) (d : Nat) (l0 l1 l2 l3 : Option Value) (x y : Int32) (st : List Value) (σ : sS), Rx E d 312 16 [l0, l1, l2, l3] (.int y :: .int x :: st) σ = Rx E d 312 17 [l0, l1, l2, l3] (.int (x <<< (y &&& 31)) :: st) σ) ∧
  (∀ (E : sV) (d : Nat) (l1 : Option Value) (l2 : Option Value) (l3 : Option Value) (x : Nat) (st : List Value) (σ : sS), Rx E d 312 17 [some (.ref x), l1, l2, l3] st σ = Rx E d 312 18 [some (.ref x), l1, l2, l3] (.ref x :: st) σ) ∧
  (∀ (E : sV) (d : Nat) (l1 : Option Value) (l2 : Option Value) (l3 : Option Value) (st : List Value) (σ : sS), Rx E d 312 17 [some (.null), l1, l2, l3] st σ = Rx E d 312 18 [some (.null), l1, l2, l3] (.null :: st) σ) ∧
  (∀ (E : sV) (d : Nat) (l0 l1 l2 l3 : Option Value) (a : Nat) (st : List Value) (σ : sS), Rx E d 312 18 [l0, l1, l2, l3] (.ref a :: st) σ = (gf σ.1 a 10 0).bind (fun v => Rx E d 312 21 [l0, l1, l2, l3] (v :: st) σ)) ∧
  (∀ (E : sV) (d : Nat) (l0 l1 l2 l3 : Option Value) (a : Nat) (st : List Value) (σ : sS), Rx E d 312 21 [l0, l1, l2, l3] (.ref a :: st) σ = (alen σ.1 a).bind (fun n => Rx E d 312 22 [l0, l1, l2, l3] (.int n :: st) σ)) ∧
  (∀ (E : sV) (d : Nat) (l0 l1 l2 l3 : Option Value) (n dp sp : Int32) (a a0 : Nat) (st : List Value) (σ : sS), Rx E d 312 22 [l0, l1, l2, l3] (.int n :: .int dp :: .ref a :: .int sp :: .ref a0 :: st) σ = if cats st ≤ 8 then (if E.1 ≤ a then (acpy σ.1 a0 sp a dp n).bind (fun h => Rx E d 312 25 [l0, l1, l2, l3] st (h, σ.2)) else none) else none) ∧
  (∀ (E : sV) (d : Nat) (l0 l1 l2 l3 : Option Value) (st : List Value) (σ : sS), Rx E d 312 25 [l0, l1, l2, l3] st σ = Rx E d 312 43 [l0, l1, l2, l3] st σ) ∧
  (∀ (E : sV) (d : Nat) (l1 : Option Value) (l2 : Option Value) (l3 : Option Value) (x : Nat) (st : List Value) (σ : sS), Rx E d 312 28 [some (.ref x), l1, l2, l3] st σ = Rx E d 312 29 [some (.ref x), l1, l2, l3] (.ref x :: st) σ) ∧
  (∀ (E : sV) (d : Nat) (l1 : Option Value) (l2 : Option Value) (l3 : Option Value) (st : List Value) (σ : sS), Rx E d 312 28 [some (.null), l1, l2, l3] st σ = Rx E d 312 29 [some (.null), l1, l2, l3] (.null :: st) σ) ∧
  (∀ (E : sV) (d : Nat) (l0 l1 l2 l3 : Option Value) (a : Nat) (st : List Value) (σ : sS), Rx E d 312 29 [l0, l1, l2, l3] (.ref a :: st) σ = (gf σ.1 a 10 0).bind (fun v => Rx E d 312 32 [l0, l1, l2, l3] (v :: st) σ)) ∧
  (∀ (E : sV) (d : Nat) (l0 l1 l2 l3 : Option Value) (st : List Value) (σ : sS), Rx E d 312 32 [l0, l1, l2, l3] st σ = Rx E d 312 33 [l0, l1, l2, l3] (.int (0) :: st) σ) ∧
  (∀ (E : sV) (d : Nat) (l0 : Option Value) (l2 : Option Value) (l3 : Option Value) (x : Nat) (st : List Value) (σ : sS), Rx E d 312 33 [l0, some (.ref x), l2, l3] st σ = Rx E d 312 34 [l0, some (.ref x), l2, l3] (.ref x :: st) σ) ∧
  (∀ (E : sV) (d : Nat) (l0 : Option Value) (l2 : Option Value) (l3 : Option Value) (st : List Value) (σ : sS), Rx E d 312 33 [l0, some (.null), l2, l3] st σ = Rx E d 312 34 [l0, some (.null), l2, l3] (.null :: st) σ) ∧
  (∀ (E : sV) (d : Nat) (l0 : Option Value) (l1 : Option Value) (l3 : Option Value) (x : Int32) (st : List Value) (σ : sS), Rx E d 312 34 [l0, l1, some (.int x), l3] st σ = Rx E d 312 35 [l0, l1, some (.int x), l3] (.int x :: st) σ) ∧
  (∀ (E : sV) (d : Nat) (l1 : Option Value) (l2 : Option Value) (l3 : Option Value) (x : Nat) (st : List Value) (σ : sS), Rx E d 312 35 [some (.ref x), l1, l2, l3] st σ = Rx E d 312 36 [some (.ref x), l1, l2, l3] (.ref x :: st) σ) ∧
  (∀ (E : sV) (d : Nat) (l1 : Option Value) (l2 : Option Value) (l3 : Option Value) (st : List Value) (σ : sS), Rx E d 312 35 [some (.null), l1, l2, l3] st σ = Rx E d 312 36 [some (.null), l1, l2, l3] (.null :: st) σ) ∧
  (∀ (E : sV) (d : Nat) (l0 l1 l2 l3 : Option Value) (a : Nat) (st : List Value) (σ : sS), Rx E d 312 36 [l0, l1, l2, l3] (.ref a :: st) σ = (gf σ.1 a 10 0).bind (fun v => Rx E d 312 39 [l0, l1, l2, l3] (v :: st) σ)) := ⟨fun _ _ _ _ _ _ _ _ => Rx_of gMT_312 d312_0 rfl,
  fun _ _ _ _ _ _ _ => Rx_of gMT_312 d312_0 rfl,
  fun _ _ _ _ _ _ _ _ _ => Rx_callV gMT_312 d312_1 rfl rfl rfl rfl rfl,
  fun _ _ _ _ _ _ _ _ => Rx_of gMT_312 d312_4 rfl,
  fun _ _ _ _ _ _ _ _ _ _ => Rx_icmp gMT_312 d312_5 rfl rfl (by decide),
  fun _ _ _ _ _ _ _ _ => Rx_of gMT_312 d312_8 rfl,
  fun _ _ _ _ _ _ _ => Rx_of gMT_312 d312_8 rfl,
  fun _ _ _ _ _ _ _ _ _ => Rx_getf gMT_312 d312_9 rfl rfl,
  fun _ _ _ _ _ _ _ _ => Rx_of gMT_312 d312_12 rfl,
  fun _ _ _ _ _ _ _ _ => Rx_of gMT_312 d312_13 rfl,
  fun _ _ _ _ _ _ _ => Rx_of gMT_312 d312_13 rfl,
  fun _ _ _ _ _ _ _ _ => Rx_of gMT_312 d312_14 rfl,
  fun _ _ _ _ _ _ _ _ => Rx_of gMT_312 d312_15 rfl,
  fun _ _ _ _ _ _ _ _ _ _ => Rx_of gMT_312 d312_16 rfl,
  fun _ _ _ _ _ _ _ _ => Rx_of gMT_312 d312_17 rfl,
  fun _ _ _ _ _ _ _ => Rx_of gMT_312 d312_17 rfl,
  fun _ _ _ _ _ _ _ _ _ => Rx_getf gMT_312 d312_18 rfl rfl,
  fun _ _ _ _ _ _ _ _ _ => Rx_alen gMT_312 d312_21 rfl,
  fun _ _ _ _ _ _ _ _ _ _ _ _ _ => Rx_acpy gMT_312 d312_22 rfl rfl rfl rfl,
  fun _ _ _ _ _ _ _ _ => Rx_goto gMT_312 d312_25 rfl (by decide),
  fun _ _ _ _ _ _ _ _ => Rx_of gMT_312 d312_28 rfl,
  fun _ _ _ _ _ _ _ => Rx_of gMT_312 d312_28 rfl,
  fun _ _ _ _ _ _ _ _ _ => Rx_getf gMT_312 d312_29 rfl rfl,
  fun _ _ _ _ _ _ _ _ => Rx_of gMT_312 d312_32 rfl,
  fun _ _ _ _ _ _ _ _ => Rx_of gMT_312 d312_33 rfl,
  fun _ _ _ _ _ _ _ => Rx_of gMT_312 d312_33 rfl,
  fun _ _ _ _ _ _ _ _ => Rx_of gMT_312 d312_34 rfl,
  fun _ _ _ _ _ _ _ _ => Rx_of gMT_312 d312_35 rfl,
  fun _ _ _ _ _ _ _ => Rx_of gMT_312 d312_35 rfl,
  fun _ _ _ _ _ _ _ _ _ => Rx_getf gMT_312 d312_36 rfl rfl⟩
theorem QString_getBytes_1 : (∀ (E : sV) (d : Nat) (l0 l1 l2 l3 : Option Value) (a : Nat) (st : List Value) (σ : sS), Rx E d 312 39 [l0, l1, l2, l3] (.ref a :: st) σ = (alen σ.1 a).bind (fun n => Rx E d 312 40 [l0, l1, l2, l3] (.int n :: st) σ)) ∧
  (∀ (E : sV) (d : Nat) (l0 l1 l2 l3 : Option Value) (σ : sS), Rx E d 312 43 [l0, l1, l2, l3] [] σ = some (.inl none, σ)) := ⟨fun _ _ _ _ _ _ _ _ _ => Rx_alen gMT_312 d312_39 rfl,
  fun _ _ _ _ _ _ _ => Rx_vret gMT_312 d312_43 rfl rfl⟩
-- QString_getBytes: QString_getBytes_0, QString_getBytes_1
theorem NString_getBytes (E : sV) (d : Nat) (a0 : Nat) (a1 : Nat) (a2 : Int32) (a3 : Int32) (σ : sS) : Mt E (d + 1) 312 [.ref a0, .ref a1, .int a2, .int a3] σ = Rx E d 312 0 [some (.ref a0), some (.ref a1), some (.int a2), some (.int a3)] [] σ := Mt_succ gMT_312 (Nat.le_of_ble_eq_true rfl)
theorem QString_checkIndex_0 : (∀ (E : sV) (d : Nat) (l1 : Option Value) (x : Int32) (st : List Value) (σ : sS), Rx E d 313 0 [some (.int x), l1] st σ = Rx E d 313 1 [some (.int x), l1] (.int x :: st) σ) ∧
  (∀ (E : sV) (d : Nat) (l0 : Option Value) (x : Int32) (st : List Value) (σ : sS), Rx E d 313 1 [l0, some (.int x)] st σ = Rx E d 313 2 [l0, some (.int x)] (.int x :: st) σ) ∧
  (∀ (E : sV) (d : Nat) (l0 l1 : Option Value) (st : List Value) (σ : sS), Rx E d 313 2 [l0, l1] st σ = Rx E d 313 5 [l0, l1] (E.2 6 :: st) σ) ∧
  (∀ (E : sV) (d : Nat) (l0 l1 : Option Value) (v1 v2 v3 : Value) (st : List Value) (σ : sS), Rx E d 313 5 [l0, l1] (v3 :: v2 :: v1 :: st) σ = if cats st ≤ 8 then callK (Mt E d 323 [v1, v2, v3] σ) (fun v σ => Rx E d 313 8 [l0, l1] (v.toList ++ st) σ) else none) ∧
  (∀ (E : sV) (d : Nat) (l0 l1 : Option Value) (x : Nat) (st : List Value) (σ : sS), Rx E d 313 8 [l0, l1] (.ref x :: st) σ = Rx E d 313 9 [l0, l1] st σ) ∧
  (∀ (E : sV) (d : Nat) (l0 l1 : Option Value) (x : Int32) (st : List Value) (σ : sS), Rx E d 313 8 [l0, l1] (.int x :: st) σ = Rx E d 313 9 [l0, l1] st σ) ∧
  (∀ (E : sV) (d : Nat) (l0 l1 : Option Value) (σ : sS), Rx E d 313 9 [l0, l1] [] σ = some (.inl none, σ)) := ⟨fun _ _ _ _ _ _ => Rx_of gMT_313 d313_0 rfl,
  fun _ _ _ _ _ _ => Rx_of gMT_313 d313_1 rfl,
  fun _ _ _ _ _ _ => Rx_gets gMT_313 d313_2 rfl rfl,
  fun _ _ _ _ _ _ _ _ _ => Rx_callS gMT_313 d313_5 rfl rfl rfl rfl rfl,
  fun _ _ _ _ _ _ _ => Rx_of gMT_313 d313_8 rfl,
  fun _ _ _ _ _ _ _ => Rx_of gMT_313 d313_8 rfl,
  fun _ _ _ _ _ => Rx_vret gMT_313 d313_9 rfl rfl⟩
-- QString_checkIndex: QString_checkIndex_0
theorem NString_checkIndex (E : sV) (d : Nat) (a0 : Int32) (a1 : Int32) (σ : sS) : Mt E (d + 1) 313 [.int a0, .int a1] σ = Rx E d 313 0 [some (.int a0), some (.int a1)] [] σ := Mt_succ gMT_313 (Nat.le_of_ble_eq_true rfl)
theorem QString_charAt_0 : (∀ (E : sV) (d : Nat) (l1 : Option Value) (x : Nat) (st : List Value) (σ : sS), Rx E d 314 0 [some (.ref x), l1] st σ = Rx E d 314 1 [some (.ref x), l1] (.ref x :: st) σ) ∧
  (∀ (E : sV) (d : Nat) (l1 : Option Value) (st : List Value) (σ : sS), Rx E d 314 0 [some (.null), l1] st σ = Rx E d 314 1 [some (.null), l1] (.null :: st) σ) ∧
  (∀ (E : sV) (d : Nat) (l0 l1 : Option Value) (b : Nat) (st : List Value) (σ : sS), Rx E d 314 1 [l0, l1] (.ref b :: st) σ = if cats st ≤ 8 ∧ isOb σ.1 b 10 = true then callK (Mt E d 315 [.ref b] σ) (fun v σ => Rx E d 314 4 [l0, l1] (v.toList ++ st) σ) else none) ∧
  (∀ (E : sV) (d : Nat) (l0 l1 : Option Value) (x : Int32) (st : List Value) (σ : sS), Rx E d 314 4 [l0, l1] (.int x :: st) σ = if x = 0 then Rx E d 314 16 [l0, l1] st σ else Rx E d 314 7 [l0, l1] st σ) ∧
  (∀ (E : sV) (d : Nat) (l1 : Option Value) (x : Nat) (st : List Value) (σ : sS), Rx E d 314 7 [some (.ref x), l1] st σ = Rx E d 314 8 [some (.ref x), l1] (.ref x :: st) σ) ∧
  (∀ (E : sV) (d : Nat) (l1 : Option Value) (st : List Value) (σ : sS), Rx E d 314 7 [some (.null), l1] st σ = Rx E d 314 8 [some (.null), l1] (.null :: st) σ) ∧
  (∀ (E : sV) (d : Nat) (l0 l1 : Option Value) (a : Nat) (st : List Value) (σ : sS), Rx E d 314 8 [l0, l1] (.ref a :: st) σ = (gf σ.1 a 10 0).bind (fun v => Rx E d 314 11 [l0, l1] (v :: st) σ)) ∧
  (∀ (E : sV) (d : Nat) (l0 : Option Value) (x : Int32) (st : List Value) (σ : sS), Rx E d 314 11 [l0, some (.int x)] st σ = Rx E d 314 12 [l0, some (.int x)] (.int x :: st) σ) ∧
  (∀ (E : sV) (d : Nat) (l0 l1 : Option Value) (v1 v2 : Value) (st : List Value) (σ : sS), Rx E d 314 12 [l0, l1] (v2 :: v1 :: st) σ = if cats st ≤ 8 then callK (Mt E d 317 [v1, v2] σ) (fun v σ => Rx E d 314 15 [l0, l1] (v.toList ++ st) σ) else none) ∧
  (∀ (E : sV) (d : Nat) (l0 l1 : Option Value) (v : Int32) (σ : sS), Rx E d 314 15 [l0, l1] [.int v] σ = if narrow .char (.int v) = .int v then some (.inl (some (.int v)), σ) else none) ∧
  (∀ (E : sV) (d : Nat) (l1 : Option Value) (x : Nat) (st : List Value) (σ : sS), Rx E d 314 16 [some (.ref x), l1] st σ = Rx E d 314 17 [some (.ref x), l1] (.ref x :: st) σ) ∧
  (∀ (E : sV) (d : Nat) (l1 : Option Value) (st : List Value) (σ : sS), Rx E d 314 16 [some (.null), l1] st σ = Rx E d 314 17 [some (.null), l1] (.null :: st) σ) ∧
  (∀ (E : sV) (d : Nat) (l0 l1 : Option Value) (a : Nat) (st : List Value) (σ : sS), Rx E d 314 17 [l0, l1] (.ref a :: st) σ = (gf σ.1 a 10 0).bind (fun v => Rx E d 314 20 [l0, l1] (v :: st) σ)) ∧
  (∀ (E : sV) (d : Nat) (l0 : Option Value) (x : Int32) (st : List Value) (σ : sS), Rx E d 314 20 [l0, some (.int x)] st σ = Rx E d 314 21 [l0, some (.int x)] (.int x :: st) σ) ∧
  (∀ (E : sV) (d : Nat) (l0 l1 : Option Value) (v : Int32) (σ : sS), Rx E d 314 24 [l0, l1] [.int v] σ = if narrow .char (.int v) = .int v then some (.inl (some (.int v)), σ) else none) := ⟨fun _ _ _ _ _ _ => Rx_of gMT_314 d314_0 rfl,
  fun _ _ _ _ _ => Rx_of gMT_314 d314_0 rfl,
  fun _ _ _ _ _ _ _ => Rx_callV gMT_314 d314_1 rfl rfl rfl rfl rfl,
  fun _ _ _ _ _ _ _ => Rx_if gMT_314 d314_4 rfl rfl (by decide),
  fun _ _ _ _ _ _ => Rx_of gMT_314 d314_7 rfl,
  fun _ _ _ _ _ => Rx_of gMT_314 d314_7 rfl,
  fun _ _ _ _ _ _ _ => Rx_getf gMT_314 d314_8 rfl rfl,
  fun _ _ _ _ _ _ => Rx_of gMT_314 d314_11 rfl,
  fun _ _ _ _ _ _ _ _ => Rx_callS gMT_314 d314_12 rfl rfl rfl rfl rfl,
  fun _ _ _ _ _ _ => Rx_iret gMT_314 d314_15 rfl rfl,
  fun _ _ _ _ _ _ => Rx_of gMT_314 d314_16 rfl,
  fun _ _ _ _ _ => Rx_of gMT_314 d314_16 rfl,
  fun _ _ _ _ _ _ _ => Rx_getf gMT_314 d314_17 rfl rfl,
  fun _ _ _ _ _ _ => Rx_of gMT_314 d314_20 rfl,
  fun _ _ _ _ _ _ => Rx_iret gMT_314 d314_24 rfl rfl⟩
-- QString_charAt: QString_charAt_0
theorem NString_charAt (E : sV) (d : Nat) (a0 : Nat) (a1 : Int32) (σ : sS) : Mt E (d + 1) 314 [.ref a0, .int a1] σ = Rx E d 314 0 [some (.ref a0), some (.int a1)] [] σ := Mt_succ gMT_314 (Nat.le_of_ble_eq_true rfl)
theorem QString_isLatin1_0 : (∀ (E : sV) (d : Nat) (l0 : Option Value) (st : List Value) (σ : sS), Rx E d 315 0 [l0] st σ = Rx E d 315 3 [l0] (E.2 0 :: st) σ) ∧
  (∀ (E : sV) (d : Nat) (l0 : Option Value) (x : Int32) (st : List Value) (σ : sS), Rx E d 315 3 [l0] (.int x :: st) σ = if x = 0 then Rx E d 315 17 [l0] st σ else Rx E d 315 6 [l0] st σ) ∧
  (∀ (E : sV) (d : Nat) (x : Nat) (st : List Value) (σ : sS), Rx E d 315 6 [some (.ref x)] st σ = Rx E d 315 7 [some (.ref x)] (.ref x :: st) σ) ∧
  (∀ (E : sV) (d : Nat) (st : List Value) (σ : sS), Rx E d 315 6 [some (.null)] st σ = Rx E d 315 7 [some (.null)] (.null :: st) σ) ∧
  (∀ (E : sV) (d : Nat) (l0 : Option Value) (a : Nat) (st : List Value) (σ : sS), Rx E d 315 7 [l0] (.ref a :: st) σ = (gf σ.1 a 10 1).bind (fun v => Rx E d 315 10 [l0] (v :: st) σ)) ∧
  (∀ (E : sV) (d : Nat) (l0 : Option Value) (x : Int32) (st : List Value) (σ : sS), Rx E d 315 10 [l0] (.int x :: st) σ = if ¬ x = 0 then Rx E d 315 17 [l0] st σ else Rx E d 315 13 [l0] st σ) ∧
  (∀ (E : sV) (d : Nat) (l0 : Option Value) (st : List Value) (σ : sS), Rx E d 315 13 [l0] st σ = Rx E d 315 14 [l0] (.int (1) :: st) σ) ∧
  (∀ (E : sV) (d : Nat) (l0 : Option Value) (st : List Value) (σ : sS), Rx E d 315 14 [l0] st σ = Rx E d 315 18 [l0] st σ) ∧
  (∀ (E : sV) (d : Nat) (l0 : Option Value) (st : List Value) (σ : sS), Rx E d 315 17 [l0] st σ = Rx E d 315 18 [l0] (.int (0) :: st) σ) ∧
  (∀ (E : sV) (d : Nat) (l0 : Option Value) (σ : sS), Rx E d 315 18 [l0] [.int 0] σ = some (.inl (some (.int 0)), σ)) ∧
  (∀ (E : sV) (d : Nat) (l0 : Option Value) (σ : sS), Rx E d 315 18 [l0] [.int 1] σ = some (.inl (some (.int 1)), σ)) ∧
  (∀ (E : sV) (d : Nat) (l0 : Option Value) (v : Int32) (σ : sS), Rx E d 315 18 [l0] [.int v] σ = if narrow .boolean (.int v) = .int v then some (.inl (some (.int v)), σ) else none) := ⟨fun _ _ _ _ _ => Rx_gets gMT_315 d315_0 rfl rfl,
  fun _ _ _ _ _ _ => Rx_if gMT_315 d315_3 rfl rfl (by decide),
  fun _ _ _ _ _ => Rx_of gMT_315 d315_6 rfl,
  fun _ _ _ _ => Rx_of gMT_315 d315_6 rfl,
  fun _ _ _ _ _ _ => Rx_getf gMT_315 d315_7 rfl rfl,
  fun _ _ _ _ _ _ => Rx_if gMT_315 d315_10 rfl rfl (by decide),
  fun _ _ _ _ _ => Rx_of gMT_315 d315_13 rfl,
  fun _ _ _ _ _ => Rx_goto gMT_315 d315_14 rfl (by decide),
  fun _ _ _ _ _ => Rx_of gMT_315 d315_17 rfl,
  fun _ _ _ _ => (Rx_iret gMT_315 d315_18 rfl rfl).trans (if_pos rfl),
  fun _ _ _ _ => (Rx_iret gMT_315 d315_18 rfl rfl).trans (if_pos rfl),
  fun _ _ _ _ _ => Rx_iret gMT_315 d315_18 rfl rfl⟩
-- QString_isLatin1: QString_isLatin1_0
theorem NString_isLatin1 (E : sV) (d : Nat) (a0 : Nat) (σ : sS) : Mt E (d + 1) 315 [.ref a0] σ = Rx E d 315 0 [some (.ref a0)] [] σ := Mt_succ gMT_315 (Nat.le_of_ble_eq_true rfl)
theorem QLatin1_canEncode_0 : (∀ (E : sV) (d : Nat) (x : Int32) (st : List Value) (σ : sS), Rx E d 316 0 [some (.int x)] st σ = Rx E d 316 1 [some (.int x)] (.int x :: st) σ) ∧
  (∀ (E : sV) (d : Nat) (l0 : Option Value) (st : List Value) (σ : sS), Rx E d 316 1 [l0] st σ = Rx E d 316 4 [l0] (.int (255) :: st) σ) ∧
  (∀ (E : sV) (d : Nat) (l0 : Option Value) (x y : Int32) (st : List Value) (σ : sS), Rx E d 316 4 [l0] (.int y :: .int x :: st) σ = if y < x then Rx E d 316 11 [l0] st σ else Rx E d 316 7 [l0] st σ) ∧
  (∀ (E : sV) (d : Nat) (l0 : Option Value) (st : List Value) (σ : sS), Rx E d 316 7 [l0] st σ = Rx E d 316 8 [l0] (.int (1) :: st) σ) ∧
  (∀ (E : sV) (d : Nat) (l0 : Option Value) (st : List Value) (σ : sS), Rx E d 316 8 [l0] st σ = Rx E d 316 12 [l0] st σ) ∧
  (∀ (E : sV) (d : Nat) (l0 : Option Value) (st : List Value) (σ : sS), Rx E d 316 11 [l0] st σ = Rx E d 316 12 [l0] (.int (0) :: st) σ) ∧
  (∀ (E : sV) (d : Nat) (l0 : Option Value) (σ : sS), Rx E d 316 12 [l0] [.int 0] σ = some (.inl (some (.int 0)), σ)) ∧
  (∀ (E : sV) (d : Nat) (l0 : Option Value) (σ : sS), Rx E d 316 12 [l0] [.int 1] σ = some (.inl (some (.int 1)), σ)) ∧
  (∀ (E : sV) (d : Nat) (l0 : Option Value) (v : Int32) (σ : sS), Rx E d 316 12 [l0] [.int v] σ = if narrow .boolean (.int v) = .int v then some (.inl (some (.int v)), σ) else none) := ⟨fun _ _ _ _ _ => Rx_of gMT_316 d316_0 rfl,
  fun _ _ _ _ _ => Rx_of gMT_316 d316_1 rfl,
  fun _ _ _ _ _ _ _ => Rx_icmp gMT_316 d316_4 rfl rfl (by decide),
  fun _ _ _ _ _ => Rx_of gMT_316 d316_7 rfl,
  fun _ _ _ _ _ => Rx_goto gMT_316 d316_8 rfl (by decide),
  fun _ _ _ _ _ => Rx_of gMT_316 d316_11 rfl,
  fun _ _ _ _ => (Rx_iret gMT_316 d316_12 rfl rfl).trans (if_pos rfl),
  fun _ _ _ _ => (Rx_iret gMT_316 d316_12 rfl rfl).trans (if_pos rfl),
  fun _ _ _ _ _ => Rx_iret gMT_316 d316_12 rfl rfl⟩
-- QLatin1_canEncode: QLatin1_canEncode_0
theorem NLatin1_canEncode (E : sV) (d : Nat) (a0 : Int32) (σ : sS) : Mt E (d + 1) 316 [.int a0] σ = Rx E d 316 0 [some (.int a0)] [] σ := Mt_succ gMT_316 (Nat.le_of_ble_eq_true rfl)
theorem QLatin1_charAt_0 : (∀ (E : sV) (d : Nat) (l0 : Option Value) (x : Int32) (st : List Value) (σ : sS), Rx E d 317 0 [l0, some (.int x)] st σ = Rx E d 317 1 [l0, some (.int x)] (.int x :: st) σ) ∧
  (∀ (E : sV) (d : Nat) (l1 : Option Value) (x : Nat) (st : List Value) (σ : sS), Rx E d 317 1 [some (.ref x), l1] st σ = Rx E d 317 2 [some (.ref x), l1] (.ref x :: st) σ) ∧
  (∀ (E : sV) (d : Nat) (l1 : Option Value) (st : List Value) (σ : sS), Rx E d 317 1 [some (.null), l1] st σ = Rx E d 317 2 [some (.null), l1] (.null :: st) σ) ∧
  (∀ (E : sV) (d : Nat) (l0 l1 : Option Value) (a : Nat) (st : List Value) (σ : sS), Rx E d 317 2 [l0, l1] (.ref a :: st) σ = (alen σ.1 a).bind (fun n => Rx E d 317 3 [l0, l1] (.int n :: st) σ)) ∧
  (∀ (E : sV) (d : Nat) (l0 l1 : Option Value) (v1 v2 : Value) (st : List Value) (σ : sS), Rx E d 317 3 [l0, l1] (v2 :: v1 :: st) σ = if cats st ≤ 8 then callK (Mt E d 313 [v1, v2] σ) (fun v σ => Rx E d 317 6 [l0, l1] (v.toList ++ st) σ) else none) ∧
  (∀ (E : sV) (d : Nat) (l1 : Option Value) (x : Nat) (st : List Value) (σ : sS), Rx E d 317 6 [some (.ref x), l1] st σ = Rx E d 317 7 [some (.ref x), l1] (.ref x :: st) σ) ∧
  (∀ (E : sV) (d : Nat) (l1 : Option Value) (st : List Value) (σ : sS), Rx E d 317 6 [some (.null), l1] st σ = Rx E d 317 7 [some (.null), l1] (.null :: st) σ) ∧
  (∀ (E : sV) (d : Nat) (l0 : Option Value) (x : Int32) (st : List Value) (σ : sS), Rx E d 317 7 [l0, some (.int x)] st σ = Rx E d 317 8 [l0, some (.int x)] (.int x :: st) σ) ∧
  (∀ (E : sV) (d : Nat) (l0 l1 : Option Value) (i : Int32) (a : Nat) (st : List Value) (σ : sS), Rx E d 317 8 [l0, l1] (.int i :: .ref a :: st) σ = ((aldI .byte σ.1 a i).or (aldI .boolean σ.1 a i)).bind (fun v => Rx E d 317 9 [l0, l1] (v :: st) σ)) ∧
  (∀ (E : sV) (d : Nat) (l0 l1 : Option Value) (st : List Value) (σ : sS), Rx E d 317 9 [l0, l1] st σ = Rx E d 317 12 [l0, l1] (.int (255) :: st) σ) ∧
  (∀ (E : sV) (d : Nat) (l0 l1 : Option Value) (x y : Int32) (st : List Value) (σ : sS), Rx E d 317 12 [l0, l1] (.int y :: .int x :: st) σ = Rx E d 317 13 [l0, l1] (.int (x &&& y) :: st) σ) ∧
  (∀ (E : sV) (d : Nat) (l0 l1 : Option Value) (x : Int32) (st : List Value) (σ : sS), Rx E d 317 13 [l0, l1] (.int x :: st) σ = Rx E d 317 14 [l0, l1] (.int (x.toUInt32 % 65536).toInt32 :: st) σ) ∧
  (∀ (E : sV) (d : Nat) (l0 l1 : Option Value) (v : Int32) (σ : sS), Rx E d 317 14 [l0, l1] [.int v] σ = if narrow .char (.int v) = .int v then some (.inl (some (.int v)), σ) else none) := ⟨fun _ _ _ _ _ _ => Rx_of gMT_317 d317_0 rfl,
  fun _ _ _ _ _ _ => Rx_of gMT_317 d317_1 rfl,
  fun _ _ _ _ _ => Rx_of gMT_317 d317_1 rfl,
  fun _ _ _ _ _ _ _ => Rx_alen gMT_317 d317_2 rfl,
  fun _ _ _ _ _ _ _ _ => Rx_callS gMT_317 d317_3 rfl rfl rfl rfl rfl,
  fun _ _ _ _ _ _ => Rx_of gMT_317 d317_6 rfl,
  fun _ _ _ _ _ => Rx_of gMT_317 d317_6 rfl,
  fun _ _ _ _ _ _ => Rx_of gMT_317 d317_7 rfl,
  fun _ _ _ _ _ _ _ _ => Rx_ald gMT_317 d317_8 rfl rfl,
  fun _ _ _ _ _ _ => Rx_of gMT_317 d317_9 rfl,
  fun _ _ _ _ _ _ _ _ => Rx_of gMT_317 d317_12 rfl,
  fun _ _ _ _ _ _ _ => Rx_of gMT_317 d317_13 rfl,
  fun _ _ _ _ _ _ => Rx_iret gMT_317 d317_14 rfl rfl⟩
-- QLatin1_charAt: QLatin1_charAt_0
theorem NLatin1_charAt (E : sV) (d : Nat) (a0 : Nat) (a1 : Int32) (σ : sS) : Mt E (d + 1) 317 [.ref a0, .int a1] σ = Rx E d 317 0 [some (.ref a0), some (.int a1)] [] σ := Mt_succ gMT_317 (Nat.le_of_ble_eq_true rfl)
theorem QInteger_stringSize_0 : (∀ (E : sV) (d : Nat) (l0 l1 l2 l3 : Option Value) (st : List Value) (σ : sS), Rx E d 318 0 [l0, l1, l2, l3] st σ = Rx E d 318 1 [l0, l1, l2, l3] (.int (1) :: st) σ) ∧
  (∀ (E : sV) (d : Nat) (l0 l1 l2 l3 : Option Value) (x : Int32) (st : List Value) (σ : sS), Rx E d 318 1 [l0, l1, l2, l3] (.int x :: st) σ = Rx E d 318 2 [ldrop l0, some (.int x), l2, l3] st σ) ∧
  (∀ (E : sV) (d : Nat) (l1 : Option Value) (l2 : Option Value) (l3 : Option Value) (x : Int32) (st : List Value) (σ : sS), Rx E d 318 2 [some (.int x), l1, l2, l3] st σ = Rx E d 318 3 [some (.int x), l1, l2, l3] (.int x :: st) σ) ∧
  (∀ (E : sV) (d : Nat) (l0 l1 l2 l3 : Option Value) (x : Int32) (st : List Value) (σ : sS), Rx E d 318 3 [l0, l1, l2, l3] (.int x :: st) σ = if x < 0 then Rx E d 318 11 [l0, l1, l2, l3] st σ else Rx E d 318 6 [l0, l1, l2, l3] st σ) ∧
  (∀ (E : sV) (d : Nat) (l0 l1 l2 l3 : Option Value) (st : List Value) (σ : sS), Rx E d 318 6 [l0, l1, l2, l3] st σ = Rx E d 318 7 [l0, l1, l2, l3] (.int (0) :: st) σ) ∧
  (∀ (E : sV) (d : Nat) (l0 l1 l2 l3 : Option Value) (x : Int32) (st : List Value) (σ : sS), Rx E d 318 7 [l0, l1, l2, l3] (.int x :: st) σ = Rx E d 318 8 [ldrop l0, some (.int x), l2, l3] st σ) ∧
  (∀ (E : sV) (d : Nat) (l1 : Option Value) (l2 : Option Value) (l3 : Option Value) (x : Int32) (st : List Value) (σ : sS), Rx E d 318 8 [some (.int x), l1, l2, l3] st σ = Rx E d 318 9 [some (.int x), l1, l2, l3] (.int x :: st) σ) ∧
  (∀ (E : sV) (d : Nat) (l0 l1 l2 l3 : Option Value) (x : Int32) (st : List Value) (σ : sS), Rx E d 318 9 [l0, l1, l2, l3] (.int x :: st) σ = Rx E d 318 10 [l0, l1, l2, l3] (.int (-x) :: st) σ) ∧
  (∀ (E : sV) (d : Nat) (l0 l1 l2 l3 : Option Value) (x : Int32) (st : List Value) (σ : sS), Rx E d 318 10 [l0, l1, l2, l3] (.int x :: st) σ = Rx E d 318 11 [some (.int x), l1, l2, l3] st σ) ∧
  (∀ (E : sV) (d : Nat) (l0 l1 l2 l3 : Option Value) (st : List Value) (σ : sS), Rx E d 318 11 [l0, l1, l2, l3] st σ = Rx E d 318 13 [l0, l1, l2, l3] (.int (-10) :: st) σ) ∧
  (∀ (E : sV) (d : Nat) (l0 l1 l2 l3 : Option Value) (x : Int32) (st : List Value) (σ : sS), Rx E d 318 13 [l0, l1, l2, l3] (.int x :: st) σ = Rx E d 318 14 [l0, ldrop l1, some (.int x), l3] st σ) ∧
  (∀ (E : sV) (d : Nat) (l0 l1 l2 l3 : Option Value) (st : List Value) (σ : sS), Rx E d 318 14 [l0, l1, l2, l3] st σ = Rx E d 318 15 [l0, l1, l2, l3] (.int (1) :: st) σ) ∧
  (∀ (E : sV) (d : Nat) (l0 l1 l2 l3 : Option Value) (x : Int32) (st : List Value) (σ : sS), Rx E d 318 15 [l0, l1, l2, l3] (.int x :: st) σ = Rx E d 318 16 [l0, l1, ldrop l2, some (.int x)] st σ) ∧
  (∀ (E : sV) (d : Nat) (l0 l1 l2 l3 : Option Value) (st : List Value) (σ : sS), Rx E d 318 17 [l0, l1, l2, l3] st σ = Rx E d 318 19 [l0, l1, l2, l3] (.int (10) :: st) σ) ∧
  (∀ (E : sV) (d : Nat) (l0 l1 l2 l3 : Option Value) (x y : Int32) (st : List Value) (σ : sS), Rx E d 318 19 [l0, l1, l2, l3] (.int y :: .int x :: st) σ = if y ≤ x then Rx E d 318 42 [l0, l1, l2, l3] st σ else Rx E d 318 22 [l0, l1, l2, l3] st σ) ∧
  (∀ (E : sV) (d : Nat) (l1 : Option Value) (l2 : Option Value) (l3 : Option Value) (x : Int32) (st : List Value) (σ : sS), Rx E d 318 22 [some (.int x), l1, l2, l3] st σ = Rx E d 318 23 [some (.int x), l1, l2, l3] (.int x :: st) σ) ∧
  (∀ (E : sV) (d : Nat) (l0 : Option Value) (l1 : Option Value) (l3 : Option Value) (x : Int32) (st : List Value) (σ : sS), Rx E d 318 23 [l0, l1, some (.int x), l3] st σ = Rx E d 318 24 [l0, l1, some (.int x), l3] (.int x :: st) σ) ∧
  (∀ (E : sV) (d : Nat) (l0 l1 l2 l3 : Option Value) (x y : Int32) (st : List Value) (σ : sS), Rx E d 318 24 [l0, l1, l2, l3] (.int y :: .int x :: st) σ = if x ≤ y then Rx E d 318 31 [l0, l1, l2, l3] st σ else Rx E d 318 27 [l0, l1, l2, l3] st σ) ∧
  (∀ (E : sV) (d : Nat) (l0 : Option Value) (l1 : Option Value) (l2 : Option Value) (x : Int32) (st : List Value) (σ : sS), Rx E d 318 27 [l0, l1, l2, some (.int x)] st σ = Rx E d 318 28 [l0, l1, l2, some (.int x)] (.int x :: st) σ) ∧
  (∀ (E : sV) (d : Nat) (l0 : Option Value) (l2 : Option Value) (l3 : Option Value) (x : Int32) (st : List Value) (σ : sS), Rx E d 318 28 [l0, some (.int x), l2, l3] st σ = Rx E d 318 29 [l0, some (.int x), l2, l3] (.int x :: st) σ) ∧
  (∀ (E : sV) (d : Nat) (l0 l1 l2 l3 : Option Value) (x y : Int32) (st : List Value) (σ : sS), Rx E d 318 29 [l0, l1, l2, l3] (.int y :: .int x :: st) σ = Rx E d 318 30 [l0, l1, l2, l3] (.int (x + y) :: st) σ) ∧
  (∀ (E : sV) (d : Nat) (l0 l1 l2 l3 : Option Value) (v : Int32) (σ : sS), Rx E d 318 30 [l0, l1, l2, l3] [.int v] σ = some (.inl (some (.int v)), σ)) ∧
  (∀ (E : sV) (d : Nat) (l0 l1 l2 l3 : Option Value) (st : List Value) (σ : sS), Rx E d 318 31 [l0, l1, l2, l3] st σ = Rx E d 318 33 [l0, l1, l2, l3] (.int (10) :: st) σ) ∧
  (∀ (E : sV) (d : Nat) (l0 : Option Value) (l1 : Option Value) (l3 : Option Value) (x : Int32) (st : List Value) (σ : sS), Rx E d 318 33 [l0, l1, some (.int x), l3] st σ = Rx E d 318 34 [l0, l1, some (.int x), l3] (.int x :: st) σ) ∧
  (∀ (E : sV) (d : Nat) (l0 l1 l2 l3 : Option Value) (x y : Int32) (st : List Value) (σ : sS), Rx E d 318 34 [l0, l1, l2, l3] (.int y :: .int x :: st) σ = Rx E d 318 35 [l0, l1, l2, l3] (.int (x * y) :: st) σ) ∧
  (∀ (E : sV) (d : Nat) (l0 l1 l2 l3 : Option Value) (x : Int32) (st : List Value) (σ : sS), Rx E d 318 35 [l0, l1, l2, l3] (.int x :: st) σ = Rx E d 318 36 [l0, ldrop l1, some (.int x), l3] st σ) ∧
  (∀ (E : sV) (d : Nat) (l0 : Option Value) (l1 : Option Value) (l2 : Option Value) (x : Int32) (st : List Value) (σ : sS), Rx E d 318 36 [l0, l1, l2, some (.int x)] st σ = Rx E d 318 39 [l0, l1, ldrop l2, some (.int (x + 1))] st σ) ∧
  (∀ (E : sV) (d : Nat) (l0 l1 l2 l3 : Option Value) (st : List Value) (σ : sS), Rx E d 318 39 [l0, l1, l2, l3] st σ = Rx E d 318 16 [l0, l1, l2, l3] st σ) ∧
  (∀ (E : sV) (d : Nat) (l0 l1 l2 l3 : Option Value) (st : List Value) (σ : sS), Rx E d 318 42 [l0, l1, l2, l3] st σ = Rx E d 318 44 [l0, l1, l2, l3] (.int (10) :: st) σ) ∧
  (∀ (E : sV) (d : Nat) (l0 : Option Value) (l2 : Option Value) (l3 : Option Value) (x : Int32) (st : List Value) (σ : sS), Rx E d 318 44 [l0, some (.int x), l2, l3] st σ = Rx E d 318 45 [l0, some (.int x), l2, l3] (.int x :: st) σ) := ⟨fun _ _ _ _ _ _ _ _ => Rx_of gMT_318 d318_0 rfl,
  fun _ _ _ _ _ _ _ _ _ => Rx_of gMT_318 d318_1 rfl,
  fun _ _ _ _ _ _ _ _ => Rx_of gMT_318 d318_2 rfl,
  fun _ _ _ _ _ _ _ _ _ => Rx_if gMT_318 d318_3 rfl rfl (by decide),
  fun _ _ _ _ _ _ _ _ => Rx_of gMT_318 d318_6 rfl,
  fun _ _ _ _ _ _ _ _ _ => Rx_of gMT_318 d318_7 rfl,
  fun _ _ _ _ _ _ _ _ => Rx_of gMT_318 d318_8 rfl,
  fun _ _ _ _ _ _ _ _ _ => Rx_of gMT_318 d318_9 rfl,
  fun _ _ _ _ _ _ _ _ _ => Rx_of gMT_318 d318_10 rfl,
  fun _ _ _ _ _ _ _ _ => Rx_of gMT_318 d318_11 rfl,
  fun _ _ _ _ _ _ _ _ _ => Rx_of gMT_318 d318_13 rfl,
  fun _ _ _ _ _ _ _ _ => Rx_of gMT_318 d318_14 rfl,
  fun _ _ _ _ _ _ _ _ _ => Rx_of gMT_318 d318_15 rfl,
  fun _ _ _ _ _ _ _ _ => Rx_of gMT_318 d318_17 rfl,
  fun _ _ _ _ _ _ _ _ _ _ => Rx_icmp gMT_318 d318_19 rfl rfl (by decide),
  fun _ _ _ _ _ _ _ _ => Rx_of gMT_318 d318_22 rfl,
  fun _ _ _ _ _ _ _ _ => Rx_of gMT_318 d318_23 rfl,
  fun _ _ _ _ _ _ _ _ _ _ => Rx_icmp gMT_318 d318_24 rfl rfl (by decide),
  fun _ _ _ _ _ _ _ _ => Rx_of gMT_318 d318_27 rfl,
  fun _ _ _ _ _ _ _ _ => Rx_of gMT_318 d318_28 rfl,
  fun _ _ _ _ _ _ _ _ _ _ => Rx_of gMT_318 d318_29 rfl,
  fun _ _ _ _ _ _ _ _ => Rx_iretI gMT_318 d318_30 rfl rfl,
  fun _ _ _ _ _ _ _ _ => Rx_of gMT_318 d318_31 rfl,
  fun _ _ _ _ _ _ _ _ => Rx_of gMT_318 d318_33 rfl,
  fun _ _ _ _ _ _ _ _ _ _ => Rx_of gMT_318 d318_34 rfl,
  fun _ _ _ _ _ _ _ _ _ => Rx_of gMT_318 d318_35 rfl,
  fun _ _ _ _ _ _ _ _ => Rx_of gMT_318 d318_36 rfl,
  fun _ _ _ _ _ _ _ _ => Rx_goto gMT_318 d318_39 rfl (by decide),
  fun _ _ _ _ _ _ _ _ => Rx_of gMT_318 d318_42 rfl,
  fun _ _ _ _ _ _ _ _ => Rx_of gMT_318 d318_44 rfl⟩
theorem QInteger_stringSize_1 : (∀ (E : sV) (d : Nat) (l0 l1 l2 l3 : Option Value) (x y : Int32) (st : List Value) (σ : sS), Rx E d 318 45 [l0, l1, l2, l3] (.int y :: .int x :: st) σ = Rx E d 318 46 [l0, l1, l2, l3] (.int (x + y) :: st) σ) ∧
  (∀ (E : sV) (d : Nat) (l0 l1 l2 l3 : Option Value) (v : Int32) (σ : sS), Rx E d 318 46 [l0, l1, l2, l3] [.int v] σ = some (.inl (some (.int v)), σ)) := ⟨fun _ _ _ _ _ _ _ _ _ _ => Rx_of gMT_318 d318_45 rfl,
  fun _ _ _ _ _ _ _ _ => Rx_iretI gMT_318 d318_46 rfl rfl⟩
-- QInteger_stringSize: QInteger_stringSize_0, QInteger_stringSize_1
theorem HInteger_stringSize_16 : ∀ (E : sV) (d : Nat) (l0 : Option Value) (l1 : Option Value) (l2 : Option Value) (x : Int32) (st : List Value) (σ : sS), Rx E d 318 16 [l0, l1, l2, some (.int x)] st σ = Rx E d 318 17 [l0, l1, l2, some (.int x)] (.int x :: st) σ := fun _ _ _ _ _ _ _ _ => Rx_of gMT_318 d318_16 rfl
theorem NInteger_stringSize (E : sV) (d : Nat) (a0 : Int32) (σ : sS) : Mt E (d + 1) 318 [.int a0] σ = Rx E d 318 0 [some (.int a0), none, none, none] [] σ := Mt_succ gMT_318 (Nat.le_of_ble_eq_true rfl)
theorem QInteger_getChars_0 : (∀ (E : sV) (d : Nat) (l0 : Option Value) (l2 : Option Value) (l3 : Option Value) (l4 : Option Value) (l5 : Option Value) (l6 : Option Value) (x : Int32) (st : List Value) (σ : sS), Rx E d 319 0 [l0, some (.int x), l2, l3, l4, l5, l6] st σ = Rx E d 319 1 [l0, some (.int x), l2, l3, l4, l5, l6] (.int x :: st) σ) ∧
  (∀ (E : sV) (d : Nat) (l0 l1 l2 l3 l4 l5 l6 : Option Value) (x : Int32) (st : List Value) (σ : sS), Rx E d 319 1 [l0, l1, l2, l3, l4, l5, l6] (.int x :: st) σ = Rx E d 319 3 [l0, l1, l2, l3, ldrop l4, some (.int x), l6] st σ) ∧
  (∀ (E : sV) (d : Nat) (l1 : Option Value) (l2 : Option Value) (l3 : Option Value) (l4 : Option Value) (l5 : Option Value) (l6 : Option Value) (x : Int32) (st : List Value) (σ : sS), Rx E d 319 3 [some (.int x), l1, l2, l3, l4, l5, l6] st σ = Rx E d 319 4 [some (.int x), l1, l2, l3, l4, l5, l6] (.int x :: st) σ) ∧
  (∀ (E : sV) (d : Nat) (l0 l1 l2 l3 l4 l5 l6 : Option Value) (x : Int32) (st : List Value) (σ : sS), Rx E d 319 4 [l0, l1, l2, l3, l4, l5, l6] (.int x :: st) σ = if 0 ≤ x then Rx E d 319 11 [l0, l1, l2, l3, l4, l5, l6] st σ else Rx E d 319 7 [l0, l1, l2, l3, l4, l5, l6] st σ) ∧
  (∀ (E : sV) (d : Nat) (l0 l1 l2 l3 l4 l5 l6 : Option Value) (st : List Value) (σ : sS), Rx E d 319 7 [l0, l1, l2, l3, l4, l5, l6] st σ = Rx E d 319 8 [l0, l1, l2, l3, l4, l5, l6] (.int (1) :: st) σ) ∧
  (∀ (E : sV) (d : Nat) (l0 l1 l2 l3 l4 l5 l6 : Option Value) (st : List Value) (σ : sS), Rx E d 319 8 [l0, l1, l2, l3, l4, l5, l6] st σ = Rx E d 319 12 [l0, l1, l2, l3, l4, l5, l6] st σ) ∧
  (∀ (E : sV) (d : Nat) (l0 l1 l2 l3 l4 l5 l6 : Option Value) (st : List Value) (σ : sS), Rx E d 319 11 [l0, l1, l2, l3, l4, l5, l6] st σ = Rx E d 319 12 [l0, l1, l2, l3, l4, l5, l6] (.int (0) :: st) σ) ∧
  (∀ (E : sV) (d : Nat) (l0 l1 l2 l3 l4 l5 l6 : Option Value) (x : Int32) (st : List Value) (σ : sS), Rx E d 319 12 [l0, l1, l2, l3, l4, l5, l6] (.int x :: st) σ = Rx E d 319 14 [l0, l1, l2, l3, l4, ldrop l5, some (.int x)] st σ) ∧
  (∀ (E : sV) (d : Nat) (l0 : Option Value) (l1 : Option Value) (l2 : Option Value) (l3 : Option Value) (l4 : Option Value) (l5 : Option Value) (x : Int32) (st : List Value) (σ : sS), Rx E d 319 14 [l0, l1, l2, l3, l4, l5, some (.int x)] st σ = Rx E d 319 16 [l0, l1, l2, l3, l4, l5, some (.int x)] (.int x :: st) σ) ∧
  (∀ (E : sV) (d : Nat) (l0 l1 l2 l3 l4 l5 l6 : Option Value) (x : Int32) (st : List Value) (σ : sS), Rx E d 319 16 [l0, l1, l2, l3, l4, l5, l6] (.int x :: st) σ = if ¬ x = 0 then Rx E d 319 22 [l0, l1, l2, l3, l4, l5, l6] st σ else Rx E d 319 19 [l0, l1, l2, l3, l4, l5, l6] st σ) ∧
  (∀ (E : sV) (d : Nat) (l1 : Option Value) (l2 : Option Value) (l3 : Option Value) (l4 : Option Value) (l5 : Option Value) (l6 : Option Value) (x : Int32) (st : List Value) (σ : sS), Rx E d 319 19 [some (.int x), l1, l2, l3, l4, l5, l6] st σ = Rx E d 319 20 [some (.int x), l1, l2, l3, l4, l5, l6] (.int x :: st) σ) ∧
  (∀ (E : sV) (d : Nat) (l0 l1 l2 l3 l4 l5 l6 : Option Value) (x : Int32) (st : List Value) (σ : sS), Rx E d 319 20 [l0, l1, l2, l3, l4, l5, l6] (.int x :: st) σ = Rx E d 319 21 [l0, l1, l2, l3, l4, l5, l6] (.int (-x) :: st) σ) ∧
  (∀ (E : sV) (d : Nat) (l0 l1 l2 l3 l4 l5 l6 : Option Value) (x : Int32) (st : List Value) (σ : sS), Rx E d 319 21 [l0, l1, l2, l3, l4, l5, l6] (.int x :: st) σ = Rx E d 319 22 [some (.int x), l1, l2, l3, l4, l5, l6] st σ) ∧
  (∀ (E : sV) (d : Nat) (l0 l1 l2 l3 l4 l5 l6 : Option Value) (st : List Value) (σ : sS), Rx E d 319 23 [l0, l1, l2, l3, l4, l5, l6] st σ = Rx E d 319 25 [l0, l1, l2, l3, l4, l5, l6] (.int (-100) :: st) σ) ∧
  (∀ (E : sV) (d : Nat) (l0 l1 l2 l3 l4 l5 l6 : Option Value) (x y : Int32) (st : List Value) (σ : sS), Rx E d 319 25 [l0, l1, l2, l3, l4, l5, l6] (.int y :: .int x :: st) σ = if y < x then Rx E d 319 72 [l0, l1, l2, l3, l4, l5, l6] st σ else Rx E d 319 28 [l0, l1, l2, l3, l4, l5, l6] st σ) ∧
  (∀ (E : sV) (d : Nat) (l1 : Option Value) (l2 : Option Value) (l3 : Option Value) (l4 : Option Value) (l5 : Option Value) (l6 : Option Value) (x : Int32) (st : List Value) (σ : sS), Rx E d 319 28 [some (.int x), l1, l2, l3, l4, l5, l6] st σ = Rx E d 319 29 [some (.int x), l1, l2, l3, l4, l5, l6] (.int x :: st) σ) ∧
  (∀ (E : sV) (d : Nat) (l0 l1 l2 l3 l4 l5 l6 : Option Value) (st : List Value) (σ : sS), Rx E d 319 29 [l0, l1, l2, l3, l4, l5, l6] st σ = Rx E d 319 31 [l0, l1, l2, l3, l4, l5, l6] (.int (100) :: st) σ) ∧
  (∀ (E : sV) (d : Nat) (l0 l1 l2 l3 l4 l5 l6 : Option Value) (x y : Int32) (st : List Value) (σ : sS), Rx E d 319 31 [l0, l1, l2, l3, l4, l5, l6] (.int y :: .int x :: st) σ = if y = 0 then none else Rx E d 319 32 [l0, l1, l2, l3, l4, l5, l6] (.int (x / y) :: st) σ) ∧
  (∀ (E : sV) (d : Nat) (l0 l1 l2 l3 l4 l5 l6 : Option Value) (x : Int32) (st : List Value) (σ : sS), Rx E d 319 32 [l0, l1, l2, l3, l4, l5, l6] (.int x :: st) σ = Rx E d 319 33 [l0, l1, ldrop l2, some (.int x), l4, l5, l6] st σ) ∧
  (∀ (E : sV) (d : Nat) (l0 : Option Value) (l1 : Option Value) (l2 : Option Value) (l4 : Option Value) (l5 : Option Value) (l6 : Option Value) (x : Int32) (st : List Value) (σ : sS), Rx E d 319 33 [l0, l1, l2, some (.int x), l4, l5, l6] st σ = Rx E d 319 34 [l0, l1, l2, some (.int x), l4, l5, l6] (.int x :: st) σ) ∧
  (∀ (E : sV) (d : Nat) (l0 l1 l2 l3 l4 l5 l6 : Option Value) (st : List Value) (σ : sS), Rx E d 319 34 [l0, l1, l2, l3, l4, l5, l6] st σ = Rx E d 319 36 [l0, l1, l2, l3, l4, l5, l6] (.int (100) :: st) σ) ∧
  (∀ (E : sV) (d : Nat) (l0 l1 l2 l3 l4 l5 l6 : Option Value) (x y : Int32) (st : List Value) (σ : sS), Rx E d 319 36 [l0, l1, l2, l3, l4, l5, l6] (.int y :: .int x :: st) σ = Rx E d 319 37 [l0, l1, l2, l3, l4, l5, l6] (.int (x * y) :: st) σ) ∧
  (∀ (E : sV) (d : Nat) (l1 : Option Value) (l2 : Option Value) (l3 : Option Value) (l4 : Option Value) (l5 : Option Value) (l6 : Option Value) (x : Int32) (st : List Value) (σ : sS), Rx E d 319 37 [some (.int x), l1, l2, l3, l4, l5, l6] st σ = Rx E d 319 38 [some (.int x), l1, l2, l3, l4, l5, l6] (.int x :: st) σ) ∧
  (∀ (E : sV) (d : Nat) (l0 l1 l2 l3 l4 l5 l6 : Option Value) (x y : Int32) (st : List Value) (σ : sS), Rx E d 319 38 [l0, l1, l2, l3, l4, l5, l6] (.int y :: .int x :: st) σ = Rx E d 319 39 [l0, l1, l2, l3, l4, l5, l6] (.int (x - y) :: st) σ) ∧
  (∀ (E : sV) (d : Nat) (l0 l1 l2 l3 l4 l5 l6 : Option Value) (x : Int32) (st : List Value) (σ : sS), Rx E d 319 39 [l0, l1, l2, l3, l4, l5, l6] (.int x :: st) σ = Rx E d 319 41 [l0, l1, l2, ldrop l3, some (.int x), l5, l6] st σ) ∧
  (∀ (E : sV) (d : Nat) (l0 : Option Value) (l1 : Option Value) (l2 : Option Value) (l4 : Option Value) (l5 : Option Value) (l6 : Option Value) (x : Int32) (st : List Value) (σ : sS), Rx E d 319 41 [l0, l1, l2, some (.int x), l4, l5, l6] st σ = Rx E d 319 42 [l0, l1, l2, some (.int x), l4, l5, l6] (.int x :: st) σ) ∧
  (∀ (E : sV) (d : Nat) (l0 l1 l2 l3 l4 l5 l6 : Option Value) (x : Int32) (st : List Value) (σ : sS), Rx E d 319 42 [l0, l1, l2, l3, l4, l5, l6] (.int x :: st) σ = Rx E d 319 43 [some (.int x), l1, l2, l3, l4, l5, l6] st σ) ∧
  (∀ (E : sV) (d : Nat) (l0 : Option Value) (l1 : Option Value) (l3 : Option Value) (l4 : Option Value) (l5 : Option Value) (l6 : Option Value) (x : Nat) (st : List Value) (σ : sS), Rx E d 319 43 [l0, l1, some (.ref x), l3, l4, l5, l6] st σ = Rx E d 319 44 [l0, l1, some (.ref x), l3, l4, l5, l6] (.ref x :: st) σ) ∧
  (∀ (E : sV) (d : Nat) (l0 : Option Value) (l1 : Option Value) (l3 : Option Value) (l4 : Option Value) (l5 : Option Value) (l6 : Option Value) (st : List Value) (σ : sS), Rx E d 319 43 [l0, l1, some (.null), l3, l4, l5, l6] st σ = Rx E d 319 44 [l0, l1, some (.null), l3, l4, l5, l6] (.null :: st) σ) ∧
  (∀ (E : sV) (d : Nat) (l0 : Option Value) (l1 : Option Value) (l2 : Option Value) (l3 : Option Value) (l4 : Option Value) (l6 : Option Value) (x : Int32) (st : List Value) (σ : sS), Rx E d 319 44 [l0, l1, l2, l3, l4, some (.int x), l6] st σ = Rx E d 319 47 [l0, l1, l2, l3, ldrop l4, some (.int (x + (-1))), l6] st σ) := ⟨fun _ _ _ _ _ _ _ _ _ _ _ => Rx_of gMT_319 d319_0 rfl,
  fun _ _ _ _ _ _ _ _ _ _ _ _ => Rx_of gMT_319 d319_1 rfl,
  fun _ _ _ _ _ _ _ _ _ _ _ => Rx_of gMT_319 d319_3 rfl,
  fun _ _ _ _ _ _ _ _ _ _ _ _ => Rx_if gMT_319 d319_4 rfl rfl (by decide),
  fun _ _ _ _ _ _ _ _ _ _ _ => Rx_of gMT_319 d319_7 rfl,
  fun _ _ _ _ _ _ _ _ _ _ _ => Rx_goto gMT_319 d319_8 rfl (by decide),
  fun _ _ _ _ _ _ _ _ _ _ _ => Rx_of gMT_319 d319_11 rfl,
  fun _ _ _ _ _ _ _ _ _ _ _ _ => Rx_of gMT_319 d319_12 rfl,
  fun _ _ _ _ _ _ _ _ _ _ _ => Rx_of gMT_319 d319_14 rfl,
  fun _ _ _ _ _ _ _ _ _ _ _ _ => Rx_if gMT_319 d319_16 rfl rfl (by decide),
  fun _ _ _ _ _ _ _ _ _ _ _ => Rx_of gMT_319 d319_19 rfl,
  fun _ _ _ _ _ _ _ _ _ _ _ _ => Rx_of gMT_319 d319_20 rfl,
  fun _ _ _ _ _ _ _ _ _ _ _ _ => Rx_of gMT_319 d319_21 rfl,
  fun _ _ _ _ _ _ _ _ _ _ _ => Rx_of gMT_319 d319_23 rfl,
  fun _ _ _ _ _ _ _ _ _ _ _ _ _ => Rx_icmp gMT_319 d319_25 rfl rfl (by decide),
  fun _ _ _ _ _ _ _ _ _ _ _ => Rx_of gMT_319 d319_28 rfl,
  fun _ _ _ _ _ _ _ _ _ _ _ => Rx_of gMT_319 d319_29 rfl,
  fun _ _ _ _ _ _ _ _ _ _ _ _ _ => Rx_nz gMT_319 d319_31 rfl rfl,
  fun _ _ _ _ _ _ _ _ _ _ _ _ => Rx_of gMT_319 d319_32 rfl,
  fun _ _ _ _ _ _ _ _ _ _ _ => Rx_of gMT_319 d319_33 rfl,
  fun _ _ _ _ _ _ _ _ _ _ _ => Rx_of gMT_319 d319_34 rfl,
  fun _ _ _ _ _ _ _ _ _ _ _ _ _ => Rx_of gMT_319 d319_36 rfl,
  fun _ _ _ _ _ _ _ _ _ _ _ => Rx_of gMT_319 d319_37 rfl,
  fun _ _ _ _ _ _ _ _ _ _ _ _ _ => Rx_of gMT_319 d319_38 rfl,
  fun _ _ _ _ _ _ _ _ _ _ _ _ => Rx_of gMT_319 d319_39 rfl,
  fun _ _ _ _ _ _ _ _ _ _ _ => Rx_of gMT_319 d319_41 rfl,
  fun _ _ _ _ _ _ _ _ _ _ _ _ => Rx_of gMT_319 d319_42 rfl,
  fun _ _ _ _ _ _ _ _ _ _ _ => Rx_of gMT_319 d319_43 rfl,
  fun _ _ _ _ _ _ _ _ _ _ => Rx_of gMT_319 d319_43 rfl,
  fun _ _ _ _ _ _ _ _ _ _ _ => Rx_of gMT_319 d319_44 rfl⟩
theorem QInteger_getChars_1 : (∀ (E : sV) (d : Nat) (l0 : Option Value) (l1 : Option Value) (l2 : Option Value) (l3 : Option Value) (l4 : Option Value) (l6 : Option Value) (x : Int32) (st : List Value) (σ : sS), Rx E d 319 47 [l0, l1, l2, l3, l4, some (.int x), l6] st σ = Rx E d 319 49 [l0, l1, l2, l3, l4, some (.int x), l6] (.int x :: st) σ) ∧
  (∀ (E : sV) (d : Nat) (l0 l1 l2 l3 l4 l5 l6 : Option Value) (st : List Value) (σ : sS), Rx E d 319 49 [l0, l1, l2, l3, l4, l5, l6] st σ = Rx E d 319 52 [l0, l1, l2, l3, l4, l5, l6] (E.2 1 :: st) σ) ∧
  (∀ (E : sV) (d : Nat) (l0 : Option Value) (l1 : Option Value) (l2 : Option Value) (l3 : Option Value) (l5 : Option Value) (l6 : Option Value) (x : Int32) (st : List Value) (σ : sS), Rx E d 319 52 [l0, l1, l2, l3, some (.int x), l5, l6] st σ = Rx E d 319 54 [l0, l1, l2, l3, some (.int x), l5, l6] (.int x :: st) σ) ∧
  (∀ (E : sV) (d : Nat) (l0 l1 l2 l3 l4 l5 l6 : Option Value) (i : Int32) (a : Nat) (st : List Value) (σ : sS), Rx E d 319 54 [l0, l1, l2, l3, l4, l5, l6] (.int i :: .ref a :: st) σ = ((aldI .byte σ.1 a i).or (aldI .boolean σ.1 a i)).bind (fun v => Rx E d 319 55 [l0, l1, l2, l3, l4, l5, l6] (v :: st) σ)) ∧
  (∀ (E : sV) (d : Nat) (l0 l1 l2 l3 l4 l5 l6 : Option Value) (x : Int32) (i : Int32) (a : Nat) (st : List Value) (σ : sS), Rx E d 319 55 [l0, l1, l2, l3, l4, l5, l6] (.int x :: .int i :: .ref a :: st) σ = if E.1 ≤ a then ((astI .byte σ.1 a i x).or (astI .boolean σ.1 a i x)).bind (fun h => Rx E d 319 56 [l0, l1, l2, l3, l4, l5, l6] st (h, σ.2)) else none) ∧
  (∀ (E : sV) (d : Nat) (l0 : Option Value) (l1 : Option Value) (l3 : Option Value) (l4 : Option Value) (l5 : Option Value) (l6 : Option Value) (x : Nat) (st : List Value) (σ : sS), Rx E d 319 56 [l0, l1, some (.ref x), l3, l4, l5, l6] st σ = Rx E d 319 57 [l0, l1, some (.ref x), l3, l4, l5, l6] (.ref x :: st) σ) ∧
  (∀ (E : sV) (d : Nat) (l0 : Option Value) (l1 : Option Value) (l3 : Option Value) (l4 : Option Value) (l5 : Option Value) (l6 : Option Value) (st : List Value) (σ : sS), Rx E d 319 56 [l0, l1, some (.null), l3, l4, l5, l6] st σ = Rx E d 319 57 [l0, l1, some (.null), l3, l4, l5, l6] (.null :: st) σ) ∧
  (∀ (E : sV) (d : Nat) (l0 : Option Value) (l1 : Option Value) (l2 : Option Value) (l3 : Option Value) (l4 : Option Value) (l6 : Option Value) (x : Int32) (st : List Value) (σ : sS), Rx E d 319 57 [l0, l1, l2, l3, l4, some (.int x), l6] st σ = Rx E d 319 60 [l0, l1, l2, l3, ldrop l4, some (.int (x + (-1))), l6] st σ) ∧
  (∀ (E : sV) (d : Nat) (l0 : Option Value) (l1 : Option Value) (l2 : Option Value) (l3 : Option Value) (l4 : Option Value) (l6 : Option Value) (x : Int32) (st : List Value) (σ : sS), Rx E d 319 60 [l0, l1, l2, l3, l4, some (.int x), l6] st σ = Rx E d 319 62 [l0, l1, l2, l3, l4, some (.int x), l6] (.int x :: st) σ) ∧
  (∀ (E : sV) (d : Nat) (l0 l1 l2 l3 l4 l5 l6 : Option Value) (st : List Value) (σ : sS), Rx E d 319 62 [l0, l1, l2, l3, l4, l5, l6] st σ = Rx E d 319 65 [l0, l1, l2, l3, l4, l5, l6] (E.2 2 :: st) σ) ∧
  (∀ (E : sV) (d : Nat) (l0 : Option Value) (l1 : Option Value) (l2 : Option Value) (l3 : Option Value) (l5 : Option Value) (l6 : Option Value) (x : Int32) (st : List Value) (σ : sS), Rx E d 319 65 [l0, l1, l2, l3, some (.int x), l5, l6] st σ = Rx E d 319 67 [l0, l1, l2, l3, some (.int x), l5, l6] (.int x :: st) σ) ∧
  (∀ (E : sV) (d : Nat) (l0 l1 l2 l3 l4 l5 l6 : Option Value) (i : Int32) (a : Nat) (st : List Value) (σ : sS), Rx E d 319 67 [l0, l1, l2, l3, l4, l5, l6] (.int i :: .ref a :: st) σ = ((aldI .byte σ.1 a i).or (aldI .boolean σ.1 a i)).bind (fun v => Rx E d 319 68 [l0, l1, l2, l3, l4, l5, l6] (v :: st) σ)) ∧
  (∀ (E : sV) (d : Nat) (l0 l1 l2 l3 l4 l5 l6 : Option Value) (x : Int32) (i : Int32) (a : Nat) (st : List Value) (σ : sS), Rx E d 319 68 [l0, l1, l2, l3, l4, l5, l6] (.int x :: .int i :: .ref a :: st) σ = if E.1 ≤ a then ((astI .byte σ.1 a i x).or (astI .boolean σ.1 a i x)).bind (fun h => Rx E d 319 69 [l0, l1, l2, l3, l4, l5, l6] st (h, σ.2)) else none) ∧
  (∀ (E : sV) (d : Nat) (l0 l1 l2 l3 l4 l5 l6 : Option Value) (st : List Value) (σ : sS), Rx E d 319 69 [l0, l1, l2, l3, l4, l5, l6] st σ = Rx E d 319 22 [l0, l1, l2, l3, l4, l5, l6] st σ) ∧
  (∀ (E : sV) (d : Nat) (l0 : Option Value) (l1 : Option Value) (l3 : Option Value) (l4 : Option Value) (l5 : Option Value) (l6 : Option Value) (x : Nat) (st : List Value) (σ : sS), Rx E d 319 72 [l0, l1, some (.ref x), l3, l4, l5, l6] st σ = Rx E d 319 73 [l0, l1, some (.ref x), l3, l4, l5, l6] (.ref x :: st) σ) ∧
  (∀ (E : sV) (d : Nat) (l0 : Option Value) (l1 : Option Value) (l3 : Option Value) (l4 : Option Value) (l5 : Option Value) (l6 : Option Value) (st : List Value) (σ : sS), Rx E d 319 72 [l0, l1, some (.null), l3, l4, l5, l6] st σ = Rx E d 319 73 [l0, l1, some (.null), l3, l4, l5, l6] (.null :: st) σ) ∧
  (∀ (E : sV) (d : Nat) (l0 : Option Value) (l1 : Option Value) (l2 : Option Value) (l3 : Option Value) (l4 : Option Value) (l6 : Option Value) (x : Int32) (st : List Value) (σ : sS), Rx E d 319 73 [l0, l1, l2, l3, l4, some (.int x), l6] st σ = Rx E d 319 76 [l0, l1, l2, l3, ldrop l4, some (.int (x + (-1))), l6] st σ) ∧
  (∀ (E : sV) (d : Nat) (l0 : Option Value) (l1 : Option Value) (l2 : Option Value) (l3 : Option Value) (l4 : Option Value) (l6 : Option Value) (x : Int32) (st : List Value) (σ : sS), Rx E d 319 76 [l0, l1, l2, l3, l4, some (.int x), l6] st σ = Rx E d 319 78 [l0, l1, l2, l3, l4, some (.int x), l6] (.int x :: st) σ) ∧
  (∀ (E : sV) (d : Nat) (l0 l1 l2 l3 l4 l5 l6 : Option Value) (st : List Value) (σ : sS), Rx E d 319 78 [l0, l1, l2, l3, l4, l5, l6] st σ = Rx E d 319 81 [l0, l1, l2, l3, l4, l5, l6] (E.2 1 :: st) σ) ∧
  (∀ (E : sV) (d : Nat) (l1 : Option Value) (l2 : Option Value) (l3 : Option Value) (l4 : Option Value) (l5 : Option Value) (l6 : Option Value) (x : Int32) (st : List Value) (σ : sS), Rx E d 319 81 [some (.int x), l1, l2, l3, l4, l5, l6] st σ = Rx E d 319 82 [some (.int x), l1, l2, l3, l4, l5, l6] (.int x :: st) σ) ∧
  (∀ (E : sV) (d : Nat) (l0 l1 l2 l3 l4 l5 l6 : Option Value) (x : Int32) (st : List Value) (σ : sS), Rx E d 319 82 [l0, l1, l2, l3, l4, l5, l6] (.int x :: st) σ = Rx E d 319 83 [l0, l1, l2, l3, l4, l5, l6] (.int (-x) :: st) σ) ∧
  (∀ (E : sV) (d : Nat) (l0 l1 l2 l3 l4 l5 l6 : Option Value) (i : Int32) (a : Nat) (st : List Value) (σ : sS), Rx E d 319 83 [l0, l1, l2, l3, l4, l5, l6] (.int i :: .ref a :: st) σ = ((aldI .byte σ.1 a i).or (aldI .boolean σ.1 a i)).bind (fun v => Rx E d 319 84 [l0, l1, l2, l3, l4, l5, l6] (v :: st) σ)) ∧
  (∀ (E : sV) (d : Nat) (l0 l1 l2 l3 l4 l5 l6 : Option Value) (x : Int32) (i : Int32) (a : Nat) (st : List Value) (σ : sS), Rx E d 319 84 [l0, l1, l2, l3, l4, l5, l6] (.int x :: .int i :: .ref a :: st) σ = if E.1 ≤ a then ((astI .byte σ.1 a i x).or (astI .boolean σ.1 a i x)).bind (fun h => Rx E d 319 85 [l0, l1, l2, l3, l4, l5, l6] st (h, σ.2)) else none) ∧
  (∀ (E : sV) (d : Nat) (l1 : Option Value) (l2 : Option Value) (l3 : Option Value) (l4 : Option Value) (l5 : Option Value) (l6 : Option Value) (x : Int32) (st : List Value) (σ : sS), Rx E d 319 85 [some (.int x), l1, l2, l3, l4, l5, l6] st σ = Rx E d 319 86 [some (.int x), l1, l2, l3, l4, l5, l6] (.int x :: st) σ) ∧
  (∀ (E : sV) (d : Nat) (l0 l1 l2 l3 l4 l5 l6 : Option Value) (st : List Value) (σ : sS), Rx E d 319 86 [l0, l1, l2, l3, l4, l5, l6] st σ = Rx E d 319 88 [l0, l1, l2, l3, l4, l5, l6] (.int (-9) :: st) σ) ∧
  (∀ (E : sV) (d : Nat) (l0 l1 l2 l3 l4 l5 l6 : Option Value) (x y : Int32) (st : List Value) (σ : sS), Rx E d 319 88 [l0, l1, l2, l3, l4, l5, l6] (.int y :: .int x :: st) σ = if y ≤ x then Rx E d 319 104 [l0, l1, l2, l3, l4, l5, l6] st σ else Rx E d 319 91 [l0, l1, l2, l3, l4, l5, l6] st σ) ∧
  (∀ (E : sV) (d : Nat) (l0 : Option Value) (l1 : Option Value) (l3 : Option Value) (l4 : Option Value) (l5 : Option Value) (l6 : Option Value) (x : Nat) (st : List Value) (σ : sS), Rx E d 319 91 [l0, l1, some (.ref x), l3, l4, l5, l6] st σ = Rx E d 319 92 [l0, l1, some (.ref x), l3, l4, l5, l6] (.ref x :: st) σ) ∧
  (∀ (E : sV) (d : Nat) (l0 : Option Value) (l1 : Option Value) (l3 : Option Value) (l4 : Option Value) (l5 : Option Value) (l6 : Option Value) (st : List Value) (σ : sS), Rx E d 319 91 [l0, l1, some (.null), l3, l4, l5, l6] st σ = Rx E d 319 92 [l0, l1, some (.null), l3, l4, l5, l6] (.null :: st) σ) ∧
  (∀ (E : sV) (d : Nat) (l0 : Option Value) (l1 : Option Value) (l2 : Option Value) (l3 : Option Value) (l4 : Option Value) (l6 : Option Value) (x : Int32) (st : List Value) (σ : sS), Rx E d 319 92 [l0, l1, l2, l3, l4, some (.int x), l6] st σ = Rx E d 319 95 [l0, l1, l2, l3, ldrop l4, some (.int (x + (-1))), l6] st σ) ∧
  (∀ (E : sV) (d : Nat) (l0 : Option Value) (l1 : Option Value) (l2 : Option Value) (l3 : Option Value) (l4 : Option Value) (l6 : Option Value) (x : Int32) (st : List Value) (σ : sS), Rx E d 319 95 [l0, l1, l2, l3, l4, some (.int x), l6] st σ = Rx E d 319 97 [l0, l1, l2, l3, l4, some (.int x), l6] (.int x :: st) σ) := ⟨fun _ _ _ _ _ _ _ _ _ _ _ => Rx_of gMT_319 d319_47 rfl,
  fun _ _ _ _ _ _ _ _ _ _ _ => Rx_gets gMT_319 d319_49 rfl rfl,
  fun _ _ _ _ _ _ _ _ _ _ _ => Rx_of gMT_319 d319_52 rfl,
  fun _ _ _ _ _ _ _ _ _ _ _ _ _ => Rx_ald gMT_319 d319_54 rfl rfl,
  fun _ _ _ _ _ _ _ _ _ _ _ _ _ _ => Rx_ast gMT_319 d319_55 rfl rfl,
  fun _ _ _ _ _ _ _ _ _ _ _ => Rx_of gMT_319 d319_56 rfl,
  fun _ _ _ _ _ _ _ _ _ _ => Rx_of gMT_319 d319_56 rfl,
  fun _ _ _ _ _ _ _ _ _ _ _ => Rx_of gMT_319 d319_57 rfl,
  fun _ _ _ _ _ _ _ _ _ _ _ => Rx_of gMT_319 d319_60 rfl,
  fun _ _ _ _ _ _ _ _ _ _ _ => Rx_gets gMT_319 d319_62 rfl rfl,
  fun _ _ _ _ _ _ _ _ _ _ _ => Rx_of gMT_319 d319_65 rfl,
  fun _ _ _ _ _ _ _ _ _ _ _ _ _ => Rx_ald gMT_319 d319_67 rfl rfl,
  fun _ _ _ _ _ _ _ _ _ _ _ _ _ _ => Rx_ast gMT_319 d319_68 rfl rfl,
  fun _ _ _ _ _ _ _ _ _ _ _ => Rx_goto gMT_319 d319_69 rfl (by decide),
  fun _ _ _ _ _ _ _ _ _ _ _ => Rx_of gMT_319 d319_72 rfl,
  fun _ _ _ _ _ _ _ _ _ _ => Rx_of gMT_319 d319_72 rfl,
  fun _ _ _ _ _ _ _ _ _ _ _ => Rx_of gMT_319 d319_73 rfl,
  fun _ _ _ _ _ _ _ _ _ _ _ => Rx_of gMT_319 d319_76 rfl,
  fun _ _ _ _ _ _ _ _ _ _ _ => Rx_gets gMT_319 d319_78 rfl rfl,
  fun _ _ _ _ _ _ _ _ _ _ _ => Rx_of gMT_319 d319_81 rfl,
  fun _ _ _ _ _ _ _ _ _ _ _ _ => Rx_of gMT_319 d319_82 rfl,
  fun _ _ _ _ _ _ _ _ _ _ _ _ _ => Rx_ald gMT_319 d319_83 rfl rfl,
  fun _ _ _ _ _ _ _ _ _ _ _ _ _ _ => Rx_ast gMT_319 d319_84 rfl rfl,
  fun _ _ _ _ _ _ _ _ _ _ _ => Rx_of gMT_319 d319_85 rfl,
  fun _ _ _ _ _ _ _ _ _ _ _ => Rx_of gMT_319 d319_86 rfl,
  fun _ _ _ _ _ _ _ _ _ _ _ _ _ => Rx_icmp gMT_319 d319_88 rfl rfl (by decide),
  fun _ _ _ _ _ _ _ _ _ _ _ => Rx_of gMT_319 d319_91 rfl,
  fun _ _ _ _ _ _ _ _ _ _ => Rx_of gMT_319 d319_91 rfl,
  fun _ _ _ _ _ _ _ _ _ _ _ => Rx_of gMT_319 d319_92 rfl,
  fun _ _ _ _ _ _ _ _ _ _ _ => Rx_of gMT_319 d319_95 rfl⟩
theorem QInteger_getChars_2 : (∀ (E : sV) (d : Nat) (l0 l1 l2 l3 l4 l5 l6 : Option Value) (st : List Value) (σ : sS), Rx E d 319 97 [l0, l1, l2, l3, l4, l5, l6] st σ = Rx E d 319 100 [l0, l1, l2, l3, l4, l5, l6] (E.2 2 :: st) σ) ∧
  (∀ (E : sV) (d : Nat) (l1 : Option Value) (l2 : Option Value) (l3 : Option Value) (l4 : Option Value) (l5 : Option Value) (l6 : Option Value) (x : Int32) (st : List Value) (σ : sS), Rx E d 319 100 [some (.int x), l1, l2, l3, l4, l5, l6] st σ = Rx E d 319 101 [some (.int x), l1, l2, l3, l4, l5, l6] (.int x :: st) σ) ∧
  (∀ (E : sV) (d : Nat) (l0 l1 l2 l3 l4 l5 l6 : Option Value) (x : Int32) (st : List Value) (σ : sS), Rx E d 319 101 [l0, l1, l2, l3, l4, l5, l6] (.int x :: st) σ = Rx E d 319 102 [l0, l1, l2, l3, l4, l5, l6] (.int (-x) :: st) σ) ∧
  (∀ (E : sV) (d : Nat) (l0 l1 l2 l3 l4 l5 l6 : Option Value) (i : Int32) (a : Nat) (st : List Value) (σ : sS), Rx E d 319 102 [l0, l1, l2, l3, l4, l5, l6] (.int i :: .ref a :: st) σ = ((aldI .byte σ.1 a i).or (aldI .boolean σ.1 a i)).bind (fun v => Rx E d 319 103 [l0, l1, l2, l3, l4, l5, l6] (v :: st) σ)) ∧
  (∀ (E : sV) (d : Nat) (l0 l1 l2 l3 l4 l5 l6 : Option Value) (x : Int32) (i : Int32) (a : Nat) (st : List Value) (σ : sS), Rx E d 319 103 [l0, l1, l2, l3, l4, l5, l6] (.int x :: .int i :: .ref a :: st) σ = if E.1 ≤ a then ((astI .byte σ.1 a i x).or (astI .boolean σ.1 a i x)).bind (fun h => Rx E d 319 104 [l0, l1, l2, l3, l4, l5, l6] st (h, σ.2)) else none) ∧
  (∀ (E : sV) (d : Nat) (l0 : Option Value) (l1 : Option Value) (l2 : Option Value) (l3 : Option Value) (l4 : Option Value) (l5 : Option Value) (x : Int32) (st : List Value) (σ : sS), Rx E d 319 104 [l0, l1, l2, l3, l4, l5, some (.int x)] st σ = Rx E d 319 106 [l0, l1, l2, l3, l4, l5, some (.int x)] (.int x :: st) σ) ∧
  (∀ (E : sV) (d : Nat) (l0 l1 l2 l3 l4 l5 l6 : Option Value) (x : Int32) (st : List Value) (σ : sS), Rx E d 319 106 [l0, l1, l2, l3, l4, l5, l6] (.int x :: st) σ = if x = 0 then Rx E d 319 118 [l0, l1, l2, l3, l4, l5, l6] st σ else Rx E d 319 109 [l0, l1, l2, l3, l4, l5, l6] st σ) ∧
  (∀ (E : sV) (d : Nat) (l0 : Option Value) (l1 : Option Value) (l3 : Option Value) (l4 : Option Value) (l5 : Option Value) (l6 : Option Value) (x : Nat) (st : List Value) (σ : sS), Rx E d 319 109 [l0, l1, some (.ref x), l3, l4, l5, l6] st σ = Rx E d 319 110 [l0, l1, some (.ref x), l3, l4, l5, l6] (.ref x :: st) σ) ∧
  (∀ (E : sV) (d : Nat) (l0 : Option Value) (l1 : Option Value) (l3 : Option Value) (l4 : Option Value) (l5 : Option Value) (l6 : Option Value) (st : List Value) (σ : sS), Rx E d 319 109 [l0, l1, some (.null), l3, l4, l5, l6] st σ = Rx E d 319 110 [l0, l1, some (.null), l3, l4, l5, l6] (.null :: st) σ) ∧
  (∀ (E : sV) (d : Nat) (l0 : Option Value) (l1 : Option Value) (l2 : Option Value) (l3 : Option Value) (l4 : Option Value) (l6 : Option Value) (x : Int32) (st : List Value) (σ : sS), Rx E d 319 110 [l0, l1, l2, l3, l4, some (.int x), l6] st σ = Rx E d 319 113 [l0, l1, l2, l3, ldrop l4, some (.int (x + (-1))), l6] st σ) ∧
  (∀ (E : sV) (d : Nat) (l0 : Option Value) (l1 : Option Value) (l2 : Option Value) (l3 : Option Value) (l4 : Option Value) (l6 : Option Value) (x : Int32) (st : List Value) (σ : sS), Rx E d 319 113 [l0, l1, l2, l3, l4, some (.int x), l6] st σ = Rx E d 319 115 [l0, l1, l2, l3, l4, some (.int x), l6] (.int x :: st) σ) ∧
  (∀ (E : sV) (d : Nat) (l0 l1 l2 l3 l4 l5 l6 : Option Value) (st : List Value) (σ : sS), Rx E d 319 115 [l0, l1, l2, l3, l4, l5, l6] st σ = Rx E d 319 117 [l0, l1, l2, l3, l4, l5, l6] (.int (45) :: st) σ) ∧
  (∀ (E : sV) (d : Nat) (l0 l1 l2 l3 l4 l5 l6 : Option Value) (x : Int32) (i : Int32) (a : Nat) (st : List Value) (σ : sS), Rx E d 319 117 [l0, l1, l2, l3, l4, l5, l6] (.int x :: .int i :: .ref a :: st) σ = if E.1 ≤ a then ((astI .byte σ.1 a i x).or (astI .boolean σ.1 a i x)).bind (fun h => Rx E d 319 118 [l0, l1, l2, l3, l4, l5, l6] st (h, σ.2)) else none) ∧
  (∀ (E : sV) (d : Nat) (l0 : Option Value) (l1 : Option Value) (l2 : Option Value) (l3 : Option Value) (l4 : Option Value) (l6 : Option Value) (x : Int32) (st : List Value) (σ : sS), Rx E d 319 118 [l0, l1, l2, l3, l4, some (.int x), l6] st σ = Rx E d 319 120 [l0, l1, l2, l3, l4, some (.int x), l6] (.int x :: st) σ) ∧
  (∀ (E : sV) (d : Nat) (l0 l1 l2 l3 l4 l5 l6 : Option Value) (v : Int32) (σ : sS), Rx E d 319 120 [l0, l1, l2, l3, l4, l5, l6] [.int v] σ = some (.inl (some (.int v)), σ)) := ⟨fun _ _ _ _ _ _ _ _ _ _ _ => Rx_gets gMT_319 d319_97 rfl rfl,
  fun _ _ _ _ _ _ _ _ _ _ _ => Rx_of gMT_319 d319_100 rfl,
  fun _ _ _ _ _ _ _ _ _ _ _ _ => Rx_of gMT_319 d319_101 rfl,
  fun _ _ _ _ _ _ _ _ _ _ _ _ _ => Rx_ald gMT_319 d319_102 rfl rfl,
  fun _ _ _ _ _ _ _ _ _ _ _ _ _ _ => Rx_ast gMT_319 d319_103 rfl rfl,
  fun _ _ _ _ _ _ _ _ _ _ _ => Rx_of gMT_319 d319_104 rfl,
  fun _ _ _ _ _ _ _ _ _ _ _ _ => Rx_if gMT_319 d319_106 rfl rfl (by decide),
  fun _ _ _ _ _ _ _ _ _ _ _ => Rx_of gMT_319 d319_109 rfl,
  fun _ _ _ _ _ _ _ _ _ _ => Rx_of gMT_319 d319_109 rfl,
  fun _ _ _ _ _ _ _ _ _ _ _ => Rx_of gMT_319 d319_110 rfl,
  fun _ _ _ _ _ _ _ _ _ _ _ => Rx_of gMT_319 d319_113 rfl,
  fun _ _ _ _ _ _ _ _ _ _ _ => Rx_of gMT_319 d319_115 rfl,
  fun _ _ _ _ _ _ _ _ _ _ _ _ _ _ => Rx_ast gMT_319 d319_117 rfl rfl,
  fun _ _ _ _ _ _ _ _ _ _ _ => Rx_of gMT_319 d319_118 rfl,
  fun _ _ _ _ _ _ _ _ _ _ _ => Rx_iretI gMT_319 d319_120 rfl rfl⟩
-- QInteger_getChars: QInteger_getChars_0, QInteger_getChars_1, QInteger_getChars_2
theorem HInteger_getChars_22 : ∀ (E : sV) (d : Nat) (l1 : Option Value) (l2 : Option Value) (l3 : Option Value) (l4 : Option Value) (l5 : Option Value) (l6 : Option Value) (x : Int32) (st : List Value) (σ : sS), Rx E d 319 22 [some (.int x), l1, l2, l3, l4, l5, l6] st σ = Rx E d 319 23 [some (.int x), l1, l2, l3, l4, l5, l6] (.int x :: st) σ := fun _ _ _ _ _ _ _ _ _ _ _ => Rx_of gMT_319 d319_22 rfl
theorem NInteger_getChars (E : sV) (d : Nat) (a0 : Int32) (a1 : Int32) (a2 : Nat) (σ : sS) : Mt E (d + 1) 319 [.int a0, .int a1, .ref a2] σ = Rx E d 319 0 [some (.int a0), some (.int a1), some (.ref a2), none, none, none, none] [] σ := Mt_succ gMT_319 (Nat.le_of_ble_eq_true rfl)
theorem QEnum_ordinal_0 : (∀ (E : sV) (d : Nat) (x : Nat) (st : List Value) (σ : sS), Rx E d 320 0 [some (.ref x)] st σ = Rx E d 320 1 [some (.ref x)] (.ref x :: st) σ) ∧
  (∀ (E : sV) (d : Nat) (st : List Value) (σ : sS), Rx E d 320 0 [some (.null)] st σ = Rx E d 320 1 [some (.null)] (.null :: st) σ) ∧
  (∀ (E : sV) (d : Nat) (l0 : Option Value) (a : Nat) (st : List Value) (σ : sS), Rx E d 320 1 [l0] (.ref a :: st) σ = (gf σ.1 a 11 0).bind (fun v => Rx E d 320 4 [l0] (v :: st) σ)) ∧
  (∀ (E : sV) (d : Nat) (l0 : Option Value) (v : Int32) (σ : sS), Rx E d 320 4 [l0] [.int v] σ = some (.inl (some (.int v)), σ)) := ⟨fun _ _ _ _ _ => Rx_of gMT_320 d320_0 rfl,
  fun _ _ _ _ => Rx_of gMT_320 d320_0 rfl,
  fun _ _ _ _ _ _ => Rx_getf gMT_320 d320_1 rfl rfl,
  fun _ _ _ _ _ => Rx_iretI gMT_320 d320_4 rfl rfl⟩
-- QEnum_ordinal: QEnum_ordinal_0
theorem NEnum_ordinal (E : sV) (d : Nat) (a0 : Nat) (σ : sS) : Mt E (d + 1) 320 [.ref a0] σ = Rx E d 320 0 [some (.ref a0)] [] σ := Mt_succ gMT_320 (Nat.le_of_ble_eq_true rfl)
theorem QArrays_copyOf_0 : (∀ (E : sV) (d : Nat) (l0 : Option Value) (l2 : Option Value) (x : Int32) (st : List Value) (σ : sS), Rx E d 321 0 [l0, some (.int x), l2] st σ = Rx E d 321 1 [l0, some (.int x), l2] (.int x :: st) σ) ∧
  (∀ (E : sV) (d : Nat) (l1 : Option Value) (l2 : Option Value) (x : Nat) (st : List Value) (σ : sS), Rx E d 321 1 [some (.ref x), l1, l2] st σ = Rx E d 321 2 [some (.ref x), l1, l2] (.ref x :: st) σ) ∧
  (∀ (E : sV) (d : Nat) (l1 : Option Value) (l2 : Option Value) (st : List Value) (σ : sS), Rx E d 321 1 [some (.null), l1, l2] st σ = Rx E d 321 2 [some (.null), l1, l2] (.null :: st) σ) ∧
  (∀ (E : sV) (d : Nat) (l0 l1 l2 : Option Value) (a : Nat) (st : List Value) (σ : sS), Rx E d 321 2 [l0, l1, l2] (.ref a :: st) σ = (alen σ.1 a).bind (fun n => Rx E d 321 3 [l0, l1, l2] (.int n :: st) σ)) ∧
  (∀ (E : sV) (d : Nat) (l0 l1 l2 : Option Value) (x y : Int32) (st : List Value) (σ : sS), Rx E d 321 3 [l0, l1, l2] (.int y :: .int x :: st) σ = if ¬ x = y then Rx E d 321 14 [l0, l1, l2] st σ else Rx E d 321 6 [l0, l1, l2] st σ) ∧
  (∀ (E : sV) (d : Nat) (l1 : Option Value) (l2 : Option Value) (x : Nat) (st : List Value) (σ : sS), Rx E d 321 6 [some (.ref x), l1, l2] st σ = Rx E d 321 7 [some (.ref x), l1, l2] (.ref x :: st) σ) ∧
  (∀ (E : sV) (d : Nat) (l1 : Option Value) (l2 : Option Value) (st : List Value) (σ : sS), Rx E d 321 6 [some (.null), l1, l2] st σ = Rx E d 321 7 [some (.null), l1, l2] (.null :: st) σ) ∧
  (∀ (E : sV) (d : Nat) (l0 l1 l2 : Option Value) (a : Nat) (σ : sS), Rx E d 321 13 [l0, l1, l2] [.ref a] σ = some (.inl (some (.ref a)), σ)) ∧
  (∀ (E : sV) (d : Nat) (l0 l1 l2 : Option Value) (σ : sS), Rx E d 321 13 [l0, l1, l2] [.null] σ = some (.inl (some .null), σ)) ∧
  (∀ (E : sV) (d : Nat) (l0 : Option Value) (l2 : Option Value) (x : Int32) (st : List Value) (σ : sS), Rx E d 321 14 [l0, some (.int x), l2] st σ = Rx E d 321 15 [l0, some (.int x), l2] (.int x :: st) σ) ∧
  (∀ (E : sV) (d : Nat) (l0 l1 l2 : Option Value) (n : Int32) (st : List Value) (σ : sS), Rx E d 321 15 [l0, l1, l2] (.int n :: st) σ = if n < 0 ∨ 536870912 < n.toNatClampNeg * componentBytes .byte then none else Rx E d 321 17 [l0, l1, l2] (.ref σ.2.1 :: st) (hset σ.1 σ.2.1 (.inl (.byte, (n.toNatClampNeg, .inl (fun _ => 0)))), σ.2.1 + 1, σ.2.2 + n.toNatClampNeg)) ∧
  (∀ (E : sV) (d : Nat) (l0 l1 l2 : Option Value) (x : Nat) (st : List Value) (σ : sS), Rx E d 321 17 [l0, l1, l2] (.ref x :: st) σ = Rx E d 321 18 [l0, ldrop l1, some (.ref x)] st σ) ∧
  (∀ (E : sV) (d : Nat) (l0 l1 l2 : Option Value) (st : List Value) (σ : sS), Rx E d 321 17 [l0, l1, l2] (.null :: st) σ = Rx E d 321 18 [l0, ldrop l1, some (.null)] st σ) ∧
  (∀ (E : sV) (d : Nat) (l1 : Option Value) (l2 : Option Value) (x : Nat) (st : List Value) (σ : sS), Rx E d 321 18 [some (.ref x), l1, l2] st σ = Rx E d 321 19 [some (.ref x), l1, l2] (.ref x :: st) σ) ∧
  (∀ (E : sV) (d : Nat) (l1 : Option Value) (l2 : Option Value) (st : List Value) (σ : sS), Rx E d 321 18 [some (.null), l1, l2] st σ = Rx E d 321 19 [some (.null), l1, l2] (.null :: st) σ) ∧
  (∀ (E : sV) (d : Nat) (l0 l1 l2 : Option Value) (st : List Value) (σ : sS), Rx E d 321 19 [l0, l1, l2] st σ = Rx E d 321 20 [l0, l1, l2] (.int (0) :: st) σ) ∧
  (∀ (E : sV) (d : Nat) (l0 : Option Value) (l1 : Option Value) (x : Nat) (st : List Value) (σ : sS), Rx E d 321 20 [l0, l1, some (.ref x)] st σ = Rx E d 321 21 [l0, l1, some (.ref x)] (.ref x :: st) σ) ∧
  (∀ (E : sV) (d : Nat) (l0 : Option Value) (l1 : Option Value) (st : List Value) (σ : sS), Rx E d 321 20 [l0, l1, some (.null)] st σ = Rx E d 321 21 [l0, l1, some (.null)] (.null :: st) σ) ∧
  (∀ (E : sV) (d : Nat) (l0 l1 l2 : Option Value) (st : List Value) (σ : sS), Rx E d 321 21 [l0, l1, l2] st σ = Rx E d 321 22 [l0, l1, l2] (.int (0) :: st) σ) ∧
  (∀ (E : sV) (d : Nat) (l1 : Option Value) (l2 : Option Value) (x : Nat) (st : List Value) (σ : sS), Rx E d 321 22 [some (.ref x), l1, l2] st σ = Rx E d 321 23 [some (.ref x), l1, l2] (.ref x :: st) σ) ∧
  (∀ (E : sV) (d : Nat) (l1 : Option Value) (l2 : Option Value) (st : List Value) (σ : sS), Rx E d 321 22 [some (.null), l1, l2] st σ = Rx E d 321 23 [some (.null), l1, l2] (.null :: st) σ) ∧
  (∀ (E : sV) (d : Nat) (l0 l1 l2 : Option Value) (a : Nat) (st : List Value) (σ : sS), Rx E d 321 23 [l0, l1, l2] (.ref a :: st) σ = (alen σ.1 a).bind (fun n => Rx E d 321 24 [l0, l1, l2] (.int n :: st) σ)) ∧
  (∀ (E : sV) (d : Nat) (l0 : Option Value) (l2 : Option Value) (x : Int32) (st : List Value) (σ : sS), Rx E d 321 24 [l0, some (.int x), l2] st σ = Rx E d 321 25 [l0, some (.int x), l2] (.int x :: st) σ) ∧
  (∀ (E : sV) (d : Nat) (l0 l1 l2 : Option Value) (x y : Int32) (st : List Value) (σ : sS), Rx E d 321 25 [l0, l1, l2] (.int y :: .int x :: st) σ = if cats st ≤ 8 then Rx E d 321 28 [l0, l1, l2] (.int (if y < x then y else x) :: st) σ else none) ∧
  (∀ (E : sV) (d : Nat) (l0 l1 l2 : Option Value) (n dp sp : Int32) (a a0 : Nat) (st : List Value) (σ : sS), Rx E d 321 28 [l0, l1, l2] (.int n :: .int dp :: .ref a :: .int sp :: .ref a0 :: st) σ = if cats st ≤ 8 then (if E.1 ≤ a then (acpy σ.1 a0 sp a dp n).bind (fun h => Rx E d 321 31 [l0, l1, l2] st (h, σ.2)) else none) else none) ∧
  (∀ (E : sV) (d : Nat) (l0 : Option Value) (l1 : Option Value) (x : Nat) (st : List Value) (σ : sS), Rx E d 321 31 [l0, l1, some (.ref x)] st σ = Rx E d 321 32 [l0, l1, some (.ref x)] (.ref x :: st) σ) ∧
  (∀ (E : sV) (d : Nat) (l0 : Option Value) (l1 : Option Value) (st : List Value) (σ : sS), Rx E d 321 31 [l0, l1, some (.null)] st σ = Rx E d 321 32 [l0, l1, some (.null)] (.null :: st) σ) ∧
  (∀ (E : sV) (d : Nat) (l0 l1 l2 : Option Value) (a : Nat) (σ : sS), Rx E d 321 32 [l0, l1, l2] [.ref a] σ = some (.inl (some (.ref a)), σ)) ∧
  (∀ (E : sV) (d : Nat) (l0 l1 l2 : Option Value) (σ : sS), Rx E d 321 32 [l0, l1, l2] [.null] σ = some (.inl (some .null), σ)) := ⟨fun _ _ _ _ _ _ _ => Rx_of gMT_321 d321_0 rfl,
  fun _ _ _ _ _ _ _ => Rx_of gMT_321 d321_1 rfl,
  fun _ _ _ _ _ _ => Rx_of gMT_321 d321_1 rfl,
  fun _ _ _ _ _ _ _ _ => Rx_alen gMT_321 d321_2 rfl,
  fun _ _ _ _ _ _ _ _ _ => Rx_icmp gMT_321 d321_3 rfl rfl (by decide),
  fun _ _ _ _ _ _ _ => Rx_of gMT_321 d321_6 rfl,
  fun _ _ _ _ _ _ => Rx_of gMT_321 d321_6 rfl,
  fun _ _ _ _ _ _ _ => Rx_aret gMT_321 d321_13 rfl (Or.inr ⟨_, rfl⟩),
  fun _ _ _ _ _ _ => Rx_aretN gMT_321 d321_13 rfl (Or.inr ⟨_, rfl⟩),
  fun _ _ _ _ _ _ _ => Rx_of gMT_321 d321_14 rfl,
  fun _ _ _ _ _ _ _ _ => Rx_newa gMT_321 d321_15 rfl rfl rfl,
  fun _ _ _ _ _ _ _ _ => Rx_of gMT_321 d321_17 rfl,
  fun _ _ _ _ _ _ _ => Rx_of gMT_321 d321_17 rfl,
  fun _ _ _ _ _ _ _ => Rx_of gMT_321 d321_18 rfl,
  fun _ _ _ _ _ _ => Rx_of gMT_321 d321_18 rfl,
  fun _ _ _ _ _ _ _ => Rx_of gMT_321 d321_19 rfl,
  fun _ _ _ _ _ _ _ => Rx_of gMT_321 d321_20 rfl,
  fun _ _ _ _ _ _ => Rx_of gMT_321 d321_20 rfl,
  fun _ _ _ _ _ _ _ => Rx_of gMT_321 d321_21 rfl,
  fun _ _ _ _ _ _ _ => Rx_of gMT_321 d321_22 rfl,
  fun _ _ _ _ _ _ => Rx_of gMT_321 d321_22 rfl,
  fun _ _ _ _ _ _ _ _ => Rx_alen gMT_321 d321_23 rfl,
  fun _ _ _ _ _ _ _ => Rx_of gMT_321 d321_24 rfl,
  fun _ _ _ _ _ _ _ _ _ => Rx_min gMT_321 d321_25 rfl rfl rfl,
  fun _ _ _ _ _ _ _ _ _ _ _ _ => Rx_acpy gMT_321 d321_28 rfl rfl rfl rfl,
  fun _ _ _ _ _ _ _ => Rx_of gMT_321 d321_31 rfl,
  fun _ _ _ _ _ _ => Rx_of gMT_321 d321_31 rfl,
  fun _ _ _ _ _ _ _ => Rx_aret gMT_321 d321_32 rfl (Or.inr ⟨_, rfl⟩),
  fun _ _ _ _ _ _ => Rx_aretN gMT_321 d321_32 rfl (Or.inr ⟨_, rfl⟩)⟩
-- QArrays_copyOf: QArrays_copyOf_0
theorem NArrays_copyOf (E : sV) (d : Nat) (a0 : Nat) (a1 : Int32) (σ : sS) : Mt E (d + 1) 321 [.ref a0, .int a1] σ = Rx E d 321 0 [some (.ref a0), some (.int a1), none] [] σ := Mt_succ gMT_321 (Nat.le_of_ble_eq_true rfl)
theorem QArrSup_newLength_0 : (∀ (E : sV) (d : Nat) (l1 : Option Value) (l2 : Option Value) (l3 : Option Value) (x : Int32) (st : List Value) (σ : sS), Rx E d 322 0 [some (.int x), l1, l2, l3] st σ = Rx E d 322 1 [some (.int x), l1, l2, l3] (.int x :: st) σ) ∧
  (∀ (E : sV) (d : Nat) (l0 : Option Value) (l2 : Option Value) (l3 : Option Value) (x : Int32) (st : List Value) (σ : sS), Rx E d 322 1 [l0, some (.int x), l2, l3] st σ = Rx E d 322 2 [l0, some (.int x), l2, l3] (.int x :: st) σ) ∧
  (∀ (E : sV) (d : Nat) (l0 : Option Value) (l1 : Option Value) (l3 : Option Value) (x : Int32) (st : List Value) (σ : sS), Rx E d 322 2 [l0, l1, some (.int x), l3] st σ = Rx E d 322 3 [l0, l1, some (.int x), l3] (.int x :: st) σ) ∧
  (∀ (E : sV) (d : Nat) (l0 l1 l2 l3 : Option Value) (x y : Int32) (st : List Value) (σ : sS), Rx E d 322 3 [l0, l1, l2, l3] (.int y :: .int x :: st) σ = if cats st ≤ 8 then Rx E d 322 6 [l0, l1, l2, l3] (.int (if x < y then y else x) :: st) σ else none) ∧
  (∀ (E : sV) (d : Nat) (l0 l1 l2 l3 : Option Value) (x y : Int32) (st : List Value) (σ : sS), Rx E d 322 6 [l0, l1, l2, l3] (.int y :: .int x :: st) σ = Rx E d 322 7 [l0, l1, l2, l3] (.int (x + y) :: st) σ) ∧
  (∀ (E : sV) (d : Nat) (l0 l1 l2 l3 : Option Value) (x : Int32) (st : List Value) (σ : sS), Rx E d 322 7 [l0, l1, l2, l3] (.int x :: st) σ = Rx E d 322 8 [l0, l1, ldrop l2, some (.int x)] st σ) ∧
  (∀ (E : sV) (d : Nat) (l0 l1 l2 l3 : Option Value) (st : List Value) (σ : sS), Rx E d 322 8 [l0, l1, l2, l3] st σ = Rx E d 322 9 [l0, l1, l2, l3] (.int (0) :: st) σ) ∧
  (∀ (E : sV) (d : Nat) (l0 : Option Value) (l1 : Option Value) (l2 : Option Value) (x : Int32) (st : List Value) (σ : sS), Rx E d 322 9 [l0, l1, l2, some (.int x)] st σ = Rx E d 322 10 [l0, l1, l2, some (.int x)] (.int x :: st) σ) ∧
  (∀ (E : sV) (d : Nat) (l0 l1 l2 l3 : Option Value) (x y : Int32) (st : List Value) (σ : sS), Rx E d 322 10 [l0, l1, l2, l3] (.int y :: .int x :: st) σ = if y ≤ x then Rx E d 322 21 [l0, l1, l2, l3] st σ else Rx E d 322 13 [l0, l1, l2, l3] st σ) ∧
  (∀ (E : sV) (d : Nat) (l0 : Option Value) (l1 : Option Value) (l2 : Option Value) (x : Int32) (st : List Value) (σ : sS), Rx E d 322 13 [l0, l1, l2, some (.int x)] st σ = Rx E d 322 14 [l0, l1, l2, some (.int x)] (.int x :: st) σ) ∧
  (∀ (E : sV) (d : Nat) (l0 l1 l2 l3 : Option Value) (st : List Value) (σ : sS), Rx E d 322 14 [l0, l1, l2, l3] st σ = Rx E d 322 16 [l0, l1, l2, l3] (.int 2147483639 :: st) σ) ∧
  (∀ (E : sV) (d : Nat) (l0 l1 l2 l3 : Option Value) (x y : Int32) (st : List Value) (σ : sS), Rx E d 322 16 [l0, l1, l2, l3] (.int y :: .int x :: st) σ = if y < x then Rx E d 322 21 [l0, l1, l2, l3] st σ else Rx E d 322 19 [l0, l1, l2, l3] st σ) ∧
  (∀ (E : sV) (d : Nat) (l0 : Option Value) (l1 : Option Value) (l2 : Option Value) (x : Int32) (st : List Value) (σ : sS), Rx E d 322 19 [l0, l1, l2, some (.int x)] st σ = Rx E d 322 20 [l0, l1, l2, some (.int x)] (.int x :: st) σ) ∧
  (∀ (E : sV) (d : Nat) (l0 l1 l2 l3 : Option Value) (v : Int32) (σ : sS), Rx E d 322 20 [l0, l1, l2, l3] [.int v] σ = some (.inl (some (.int v)), σ)) ∧
  (∀ (E : sV) (d : Nat) (l1 : Option Value) (l2 : Option Value) (l3 : Option Value) (x : Int32) (st : List Value) (σ : sS), Rx E d 322 21 [some (.int x), l1, l2, l3] st σ = Rx E d 322 22 [some (.int x), l1, l2, l3] (.int x :: st) σ) ∧
  (∀ (E : sV) (d : Nat) (l0 : Option Value) (l2 : Option Value) (l3 : Option Value) (x : Int32) (st : List Value) (σ : sS), Rx E d 322 22 [l0, some (.int x), l2, l3] st σ = Rx E d 322 23 [l0, some (.int x), l2, l3] (.int x :: st) σ) ∧
  (∀ (E : sV) (d : Nat) (l0 l1 l2 l3 : Option Value) (v : Int32) (σ : sS), Rx E d 322 26 [l0, l1, l2, l3] [.int v] σ = some (.inl (some (.int v)), σ)) := ⟨fun _ _ _ _ _ _ _ _ => Rx_of gMT_322 d322_0 rfl,
  fun _ _ _ _ _ _ _ _ => Rx_of gMT_322 d322_1 rfl,
  fun _ _ _ _ _ _ _ _ => Rx_of gMT_322 d322_2 rfl,
  fun _ _ _ _ _ _ _ _ _ _ => Rx_max gMT_322 d322_3 rfl rfl rfl,
  fun _ _ _ _ _ _ _ _ _ _ => Rx_of gMT_322 d322_6 rfl,
  fun _ _ _ _ _ _ _ _ _ => Rx_of gMT_322 d322_7 rfl,
  fun _ _ _ _ _ _ _ _ => Rx_of gMT_322 d322_8 rfl,
  fun _ _ _ _ _ _ _ _ => Rx_of gMT_322 d322_9 rfl,
  fun _ _ _ _ _ _ _ _ _ _ => Rx_icmp gMT_322 d322_10 rfl rfl (by decide),
  fun _ _ _ _ _ _ _ _ => Rx_of gMT_322 d322_13 rfl,
  fun _ _ _ _ _ _ _ _ => Rx_ldcI gMT_322 d322_14 rfl rfl,
  fun _ _ _ _ _ _ _ _ _ _ => Rx_icmp gMT_322 d322_16 rfl rfl (by decide),
  fun _ _ _ _ _ _ _ _ => Rx_of gMT_322 d322_19 rfl,
  fun _ _ _ _ _ _ _ _ => Rx_iretI gMT_322 d322_20 rfl rfl,
  fun _ _ _ _ _ _ _ _ => Rx_of gMT_322 d322_21 rfl,
  fun _ _ _ _ _ _ _ _ => Rx_of gMT_322 d322_22 rfl,
  fun _ _ _ _ _ _ _ _ => Rx_iretI gMT_322 d322_26 rfl rfl⟩
-- QArrSup_newLength: QArrSup_newLength_0
theorem NArrSup_newLength (E : sV) (d : Nat) (a0 : Int32) (a1 : Int32) (a2 : Int32) (σ : sS) : Mt E (d + 1) 322 [.int a0, .int a1, .int a2] σ = Rx E d 322 0 [some (.int a0), some (.int a1), some (.int a2), none] [] σ := Mt_succ gMT_322 (Nat.le_of_ble_eq_true rfl)
theorem QPrecond_checkIndex_0 : (∀ (E : sV) (d : Nat) (l1 : Option Value) (l2 : Option Value) (x : Int32) (st : List Value) (σ : sS), Rx E d 323 0 [some (.int x), l1, l2] st σ = Rx E d 323 1 [some (.int x), l1, l2] (.int x :: st) σ) ∧
  (∀ (E : sV) (d : Nat) (l0 l1 l2 : Option Value) (x : Int32) (st : List Value) (σ : sS), Rx E d 323 1 [l0, l1, l2] (.int x :: st) σ = if x < 0 then Rx E d 323 9 [l0, l1, l2] st σ else Rx E d 323 4 [l0, l1, l2] st σ) ∧
  (∀ (E : sV) (d : Nat) (l1 : Option Value) (l2 : Option Value) (x : Int32) (st : List Value) (σ : sS), Rx E d 323 4 [some (.int x), l1, l2] st σ = Rx E d 323 5 [some (.int x), l1, l2] (.int x :: st) σ) ∧
  (∀ (E : sV) (d : Nat) (l0 : Option Value) (l2 : Option Value) (x : Int32) (st : List Value) (σ : sS), Rx E d 323 5 [l0, some (.int x), l2] st σ = Rx E d 323 6 [l0, some (.int x), l2] (.int x :: st) σ) ∧
  (∀ (E : sV) (d : Nat) (l0 l1 l2 : Option Value) (x y : Int32) (st : List Value) (σ : sS), Rx E d 323 6 [l0, l1, l2] (.int y :: .int x :: st) σ = if x < y then Rx E d 323 16 [l0, l1, l2] st σ else Rx E d 323 9 [l0, l1, l2] st σ) ∧
  (∀ (E : sV) (d : Nat) (l0 : Option Value) (l1 : Option Value) (x : Nat) (st : List Value) (σ : sS), Rx E d 323 9 [l0, l1, some (.ref x)] st σ = Rx E d 323 10 [l0, l1, some (.ref x)] (.ref x :: st) σ) ∧
  (∀ (E : sV) (d : Nat) (l0 : Option Value) (l1 : Option Value) (st : List Value) (σ : sS), Rx E d 323 9 [l0, l1, some (.null)] st σ = Rx E d 323 10 [l0, l1, some (.null)] (.null :: st) σ) ∧
  (∀ (E : sV) (d : Nat) (l1 : Option Value) (l2 : Option Value) (x : Int32) (st : List Value) (σ : sS), Rx E d 323 10 [some (.int x), l1, l2] st σ = Rx E d 323 11 [some (.int x), l1, l2] (.int x :: st) σ) ∧
  (∀ (E : sV) (d : Nat) (l0 : Option Value) (l2 : Option Value) (x : Int32) (st : List Value) (σ : sS), Rx E d 323 11 [l0, some (.int x), l2] st σ = Rx E d 323 12 [l0, some (.int x), l2] (.int x :: st) σ) ∧
  (∀ (E : sV) (d : Nat) (l1 : Option Value) (l2 : Option Value) (x : Int32) (st : List Value) (σ : sS), Rx E d 323 16 [some (.int x), l1, l2] st σ = Rx E d 323 17 [some (.int x), l1, l2] (.int x :: st) σ) ∧
  (∀ (E : sV) (d : Nat) (l0 l1 l2 : Option Value) (v : Int32) (σ : sS), Rx E d 323 17 [l0, l1, l2] [.int v] σ = some (.inl (some (.int v)), σ)) := ⟨fun _ _ _ _ _ _ _ => Rx_of gMT_323 d323_0 rfl,
  fun _ _ _ _ _ _ _ _ => Rx_if gMT_323 d323_1 rfl rfl (by decide),
  fun _ _ _ _ _ _ _ => Rx_of gMT_323 d323_4 rfl,
  fun _ _ _ _ _ _ _ => Rx_of gMT_323 d323_5 rfl,
  fun _ _ _ _ _ _ _ _ _ => Rx_icmp gMT_323 d323_6 rfl rfl (by decide),
  fun _ _ _ _ _ _ _ => Rx_of gMT_323 d323_9 rfl,
  fun _ _ _ _ _ _ => Rx_of gMT_323 d323_9 rfl,
  fun _ _ _ _ _ _ _ => Rx_of gMT_323 d323_10 rfl,
  fun _ _ _ _ _ _ _ => Rx_of gMT_323 d323_11 rfl,
  fun _ _ _ _ _ _ _ => Rx_of gMT_323 d323_16 rfl,
  fun _ _ _ _ _ _ _ => Rx_iretI gMT_323 d323_17 rfl rfl⟩
-- QPrecond_checkIndex: QPrecond_checkIndex_0
theorem NPrecond_checkIndex (E : sV) (d : Nat) (a0 : Int32) (a1 : Int32) (a2 : Nat) (σ : sS) : Mt E (d + 1) 323 [.int a0, .int a1, .ref a2] σ = Rx E d 323 0 [some (.int a0), some (.int a1), some (.ref a2)] [] σ := Mt_succ gMT_323 (Nat.le_of_ble_eq_true rfl)
