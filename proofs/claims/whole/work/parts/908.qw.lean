/-! an equation an instruction, by wip/whole/gen_q.py -/
theorem QLaw_addJob_0 : (∀ (E : sV) (d : Nat) (l0 : Option Value) (l1 : Option Value) (l2 : Option Value) (l3 : Option Value) (l4 : Option Value) (l5 : Option Value) (l6 : Option Value) (l8 : Option Value) (x : Nat) (st : List Value) (σ : sS), Rx E d 247 0 [l0, l1, l2, l3, l4, l5, l6, some (.ref x), l8] st σ = Rx E d 247 2 [l0, l1, l2, l3, l4, l5, l6, some (.ref x), l8] (.ref x :: st) σ) ∧
  (∀ (E : sV) (d : Nat) (l0 : Option Value) (l1 : Option Value) (l2 : Option Value) (l3 : Option Value) (l4 : Option Value) (l5 : Option Value) (l6 : Option Value) (l8 : Option Value) (st : List Value) (σ : sS), Rx E d 247 0 [l0, l1, l2, l3, l4, l5, l6, some (.null), l8] st σ = Rx E d 247 2 [l0, l1, l2, l3, l4, l5, l6, some (.null), l8] (.null :: st) σ) ∧
  (∀ (E : sV) (d : Nat) (l0 l1 l2 l3 l4 l5 l6 l7 l8 : Option Value) (st : List Value) (σ : sS), Rx E d 247 2 [l0, l1, l2, l3, l4, l5, l6, l7, l8] st σ = Rx E d 247 3 [l0, l1, l2, l3, l4, l5, l6, l7, l8] (.int (0) :: st) σ) ∧
  (∀ (E : sV) (d : Nat) (l1 : Option Value) (l2 : Option Value) (l3 : Option Value) (l4 : Option Value) (l5 : Option Value) (l6 : Option Value) (l7 : Option Value) (l8 : Option Value) (x : Nat) (st : List Value) (σ : sS), Rx E d 247 3 [some (.ref x), l1, l2, l3, l4, l5, l6, l7, l8] st σ = Rx E d 247 4 [some (.ref x), l1, l2, l3, l4, l5, l6, l7, l8] (.ref x :: st) σ) ∧
  (∀ (E : sV) (d : Nat) (l1 : Option Value) (l2 : Option Value) (l3 : Option Value) (l4 : Option Value) (l5 : Option Value) (l6 : Option Value) (l7 : Option Value) (l8 : Option Value) (st : List Value) (σ : sS), Rx E d 247 3 [some (.null), l1, l2, l3, l4, l5, l6, l7, l8] st σ = Rx E d 247 4 [some (.null), l1, l2, l3, l4, l5, l6, l7, l8] (.null :: st) σ) ∧
  (∀ (E : sV) (d : Nat) (l0 : Option Value) (l2 : Option Value) (l3 : Option Value) (l4 : Option Value) (l5 : Option Value) (l6 : Option Value) (l7 : Option Value) (l8 : Option Value) (x : Int32) (st : List Value) (σ : sS), Rx E d 247 4 [l0, some (.int x), l2, l3, l4, l5, l6, l7, l8] st σ = Rx E d 247 5 [l0, some (.int x), l2, l3, l4, l5, l6, l7, l8] (.int x :: st) σ) ∧
  (∀ (E : sV) (d : Nat) (l0 : Option Value) (l1 : Option Value) (l3 : Option Value) (l4 : Option Value) (l5 : Option Value) (l6 : Option Value) (l7 : Option Value) (l8 : Option Value) (x : Int32) (st : List Value) (σ : sS), Rx E d 247 5 [l0, l1, some (.int x), l3, l4, l5, l6, l7, l8] st σ = Rx E d 247 6 [l0, l1, some (.int x), l3, l4, l5, l6, l7, l8] (.int x :: st) σ) ∧
  (∀ (E : sV) (d : Nat) (l0 : Option Value) (l1 : Option Value) (l2 : Option Value) (l4 : Option Value) (l5 : Option Value) (l6 : Option Value) (l7 : Option Value) (l8 : Option Value) (x : Int32) (st : List Value) (σ : sS), Rx E d 247 6 [l0, l1, l2, some (.int x), l4, l5, l6, l7, l8] st σ = Rx E d 247 7 [l0, l1, l2, some (.int x), l4, l5, l6, l7, l8] (.int x :: st) σ) ∧
  (∀ (E : sV) (d : Nat) (l0 : Option Value) (l1 : Option Value) (l2 : Option Value) (l3 : Option Value) (l5 : Option Value) (l6 : Option Value) (l7 : Option Value) (l8 : Option Value) (x : Int32) (st : List Value) (σ : sS), Rx E d 247 7 [l0, l1, l2, l3, some (.int x), l5, l6, l7, l8] st σ = Rx E d 247 9 [l0, l1, l2, l3, some (.int x), l5, l6, l7, l8] (.int x :: st) σ) ∧
  (∀ (E : sV) (d : Nat) (l0 : Option Value) (l1 : Option Value) (l2 : Option Value) (l3 : Option Value) (l4 : Option Value) (l6 : Option Value) (l7 : Option Value) (l8 : Option Value) (x : Int32) (st : List Value) (σ : sS), Rx E d 247 9 [l0, l1, l2, l3, l4, some (.int x), l6, l7, l8] st σ = Rx E d 247 11 [l0, l1, l2, l3, l4, some (.int x), l6, l7, l8] (.int x :: st) σ) ∧
  (∀ (E : sV) (d : Nat) (l0 : Option Value) (l1 : Option Value) (l2 : Option Value) (l3 : Option Value) (l4 : Option Value) (l5 : Option Value) (l7 : Option Value) (l8 : Option Value) (x : Int32) (st : List Value) (σ : sS), Rx E d 247 11 [l0, l1, l2, l3, l4, l5, some (.int x), l7, l8] st σ = Rx E d 247 13 [l0, l1, l2, l3, l4, l5, some (.int x), l7, l8] (.int x :: st) σ) ∧
  (∀ (E : sV) (d : Nat) (l0 l1 l2 l3 l4 l5 l6 l7 l8 : Option Value) (v1 v2 v3 v4 v5 v6 : Value) (b : Nat) (st : List Value) (σ : sS) (hc : cats st ≤ 8) (hb : isOb σ.1 b 7 = true), Rx E d 247 13 [l0, l1, l2, l3, l4, l5, l6, l7, l8] (v6 :: v5 :: v4 :: v3 :: v2 :: v1 :: .ref b :: st) σ = fin E d 247 (sRet gm247 13 [l0, l1, l2, l3, l4, l5, l6, l7, l8] st (Mt E d 73 [.ref b, v1, v2, v3, v4, v5, v6] σ))) ∧
  (∀ (E : sV) (d : Nat) (l0 l1 l2 l3 l4 l5 l6 l7 l8 : Option Value) (x : Int32) (st : List Value) (σ : sS), Rx E d 247 16 [l0, l1, l2, l3, l4, l5, l6, l7, l8] (.int x :: st) σ = Rx E d 247 17 [l0, l1, l2, l3, l4, l5, l6, l7, l8] (.long x.toInt64 :: st) σ) ∧
  (∀ (E : sV) (d : Nat) (l0 l1 l2 l3 l4 l5 l6 l7 l8 : Option Value) (x : Int64) (i : Int32) (a : Nat) (st : List Value) (σ : sS), Rx E d 247 17 [l0, l1, l2, l3, l4, l5, l6, l7, l8] (.long x :: .int i :: .ref a :: st) σ = if E.1 ≤ a then (astL σ.1 a i x).bind (fun h => Rx E d 247 18 [l0, l1, l2, l3, l4, l5, l6, l7, l8] st (h, σ.2)) else none) ∧
  (∀ (E : sV) (d : Nat) (l0 l1 l2 l3 l4 l5 l6 l7 l8 : Option Value) (st : List Value) (σ : sS), Rx E d 247 18 [l0, l1, l2, l3, l4, l5, l6, l7, l8] st σ = Rx E d 247 29 [l0, l1, l2, l3, l4, l5, l6, l7, l8] st σ) ∧
  (∀ (E : sV) (d : Nat) (l0 l1 l2 l3 l4 l5 l6 l7 l8 : Option Value) (x : Nat) (st : List Value) (σ : sS), Rx E d 247 21 [l0, l1, l2, l3, l4, l5, l6, l7, l8] (.ref x :: st) σ = Rx E d 247 23 [l0, l1, l2, l3, l4, l5, l6, ldrop l7, some (.ref x)] st σ) ∧
  (∀ (E : sV) (d : Nat) (l0 l1 l2 l3 l4 l5 l6 l7 l8 : Option Value) (st : List Value) (σ : sS), Rx E d 247 21 [l0, l1, l2, l3, l4, l5, l6, l7, l8] (.null :: st) σ = Rx E d 247 23 [l0, l1, l2, l3, l4, l5, l6, ldrop l7, some (.null)] st σ) ∧
  (∀ (E : sV) (d : Nat) (l0 l1 l2 l3 l4 l5 l6 l7 l8 : Option Value) (st : List Value) (σ : sS), Rx E d 247 23 [l0, l1, l2, l3, l4, l5, l6, l7, l8] st σ = Rx E d 247 24 [l0, l1, l2, l3, l4, l5, l6, l7, l8] (.int (1) :: st) σ) ∧
  (∀ (E : sV) (d : Nat) (l0 l1 l2 l3 l4 l5 l6 l7 l8 : Option Value) (v : Int32) (σ : sS), Rx E d 247 24 [l0, l1, l2, l3, l4, l5, l6, l7, l8] [.int v] σ = some (.inl (some (.int v)), σ)) ∧
  (∀ (E : sV) (d : Nat) (l0 l1 l2 l3 l4 l5 l6 l7 l8 : Option Value) (x : Nat) (st : List Value) (σ : sS), Rx E d 247 25 [l0, l1, l2, l3, l4, l5, l6, l7, l8] (.ref x :: st) σ = Rx E d 247 27 [l0, l1, l2, l3, l4, l5, l6, ldrop l7, some (.ref x)] st σ) ∧
  (∀ (E : sV) (d : Nat) (l0 l1 l2 l3 l4 l5 l6 l7 l8 : Option Value) (st : List Value) (σ : sS), Rx E d 247 25 [l0, l1, l2, l3, l4, l5, l6, l7, l8] (.null :: st) σ = Rx E d 247 27 [l0, l1, l2, l3, l4, l5, l6, ldrop l7, some (.null)] st σ) ∧
  (∀ (E : sV) (d : Nat) (l0 l1 l2 l3 l4 l5 l6 l7 l8 : Option Value) (st : List Value) (σ : sS), Rx E d 247 27 [l0, l1, l2, l3, l4, l5, l6, l7, l8] st σ = Rx E d 247 28 [l0, l1, l2, l3, l4, l5, l6, l7, l8] (.int (2) :: st) σ) ∧
  (∀ (E : sV) (d : Nat) (l0 l1 l2 l3 l4 l5 l6 l7 l8 : Option Value) (v : Int32) (σ : sS), Rx E d 247 28 [l0, l1, l2, l3, l4, l5, l6, l7, l8] [.int v] σ = some (.inl (some (.int v)), σ)) ∧
  (∀ (E : sV) (d : Nat) (l0 l1 l2 l3 l4 l5 l6 l7 l8 : Option Value) (st : List Value) (σ : sS), Rx E d 247 29 [l0, l1, l2, l3, l4, l5, l6, l7, l8] st σ = Rx E d 247 30 [l0, l1, l2, l3, l4, l5, l6, l7, l8] (.int (0) :: st) σ) ∧
  (∀ (E : sV) (d : Nat) (l0 l1 l2 l3 l4 l5 l6 l7 l8 : Option Value) (v : Int32) (σ : sS), Rx E d 247 30 [l0, l1, l2, l3, l4, l5, l6, l7, l8] [.int v] σ = some (.inl (some (.int v)), σ)) := ⟨fun _ _ _ _ _ _ _ _ _ _ _ _ _ => Rx_of gMT_247 d247_0 rfl,
  fun _ _ _ _ _ _ _ _ _ _ _ _ => Rx_of gMT_247 d247_0 rfl,
  fun _ _ _ _ _ _ _ _ _ _ _ _ _ => Rx_of gMT_247 d247_2 rfl,
  fun _ _ _ _ _ _ _ _ _ _ _ _ _ => Rx_of gMT_247 d247_3 rfl,
  fun _ _ _ _ _ _ _ _ _ _ _ _ => Rx_of gMT_247 d247_3 rfl,
  fun _ _ _ _ _ _ _ _ _ _ _ _ _ => Rx_of gMT_247 d247_4 rfl,
  fun _ _ _ _ _ _ _ _ _ _ _ _ _ => Rx_of gMT_247 d247_5 rfl,
  fun _ _ _ _ _ _ _ _ _ _ _ _ _ => Rx_of gMT_247 d247_6 rfl,
  fun _ _ _ _ _ _ _ _ _ _ _ _ _ => Rx_of gMT_247 d247_7 rfl,
  fun _ _ _ _ _ _ _ _ _ _ _ _ _ => Rx_of gMT_247 d247_9 rfl,
  fun _ _ _ _ _ _ _ _ _ _ _ _ _ => Rx_of gMT_247 d247_11 rfl,
  fun _ _ _ _ _ _ _ _ _ _ _ _ _ _ _ _ _ _ _ _ hc hb => Rx_callW gMT_247 d247_13 rfl rfl rfl rfl hc hb,
  fun _ _ _ _ _ _ _ _ _ _ _ _ _ _ => Rx_of gMT_247 d247_16 rfl,
  fun _ _ _ _ _ _ _ _ _ _ _ _ _ _ _ _ => Rx_ast gMT_247 d247_17 rfl rfl,
  fun _ _ _ _ _ _ _ _ _ _ _ _ _ => Rx_goto gMT_247 d247_18 rfl (by decide),
  fun _ _ _ _ _ _ _ _ _ _ _ _ _ _ => Rx_of gMT_247 d247_21 rfl,
  fun _ _ _ _ _ _ _ _ _ _ _ _ _ => Rx_of gMT_247 d247_21 rfl,
  fun _ _ _ _ _ _ _ _ _ _ _ _ _ => Rx_of gMT_247 d247_23 rfl,
  fun _ _ _ _ _ _ _ _ _ _ _ _ _ => Rx_iretI gMT_247 d247_24 rfl rfl,
  fun _ _ _ _ _ _ _ _ _ _ _ _ _ _ => Rx_of gMT_247 d247_25 rfl,
  fun _ _ _ _ _ _ _ _ _ _ _ _ _ => Rx_of gMT_247 d247_25 rfl,
  fun _ _ _ _ _ _ _ _ _ _ _ _ _ => Rx_of gMT_247 d247_27 rfl,
  fun _ _ _ _ _ _ _ _ _ _ _ _ _ => Rx_iretI gMT_247 d247_28 rfl rfl,
  fun _ _ _ _ _ _ _ _ _ _ _ _ _ => Rx_of gMT_247 d247_29 rfl,
  fun _ _ _ _ _ _ _ _ _ _ _ _ _ => Rx_iretI gMT_247 d247_30 rfl rfl⟩
-- QLaw_addJob: QLaw_addJob_0
theorem NLaw_addJob (E : sV) (d : Nat) (a0 : Nat) (a1 : Int32) (a2 : Int32) (a3 : Int32) (a4 : Int32) (a5 : Int32) (a6 : Int32) (a7 : Nat) (σ : sS) : Mt E (d + 1) 247 [.ref a0, .int a1, .int a2, .int a3, .int a4, .int a5, .int a6, .ref a7] σ = Rx E d 247 0 [some (.ref a0), some (.int a1), some (.int a2), some (.int a3), some (.int a4), some (.int a5), some (.int a6), some (.ref a7), none] [] σ := Mt_succ gMT_247 (Nat.le_of_ble_eq_true rfl)
theorem QLaw_cancelJob_0 : (∀ (E : sV) (d : Nat) (l0 : Option Value) (l1 : Option Value) (l3 : Option Value) (x : Nat) (st : List Value) (σ : sS), Rx E d 248 0 [l0, l1, some (.ref x), l3] st σ = Rx E d 248 1 [l0, l1, some (.ref x), l3] (.ref x :: st) σ) ∧
  (∀ (E : sV) (d : Nat) (l0 : Option Value) (l1 : Option Value) (l3 : Option Value) (st : List Value) (σ : sS), Rx E d 248 0 [l0, l1, some (.null), l3] st σ = Rx E d 248 1 [l0, l1, some (.null), l3] (.null :: st) σ) ∧
  (∀ (E : sV) (d : Nat) (l0 l1 l2 l3 : Option Value) (st : List Value) (σ : sS), Rx E d 248 1 [l0, l1, l2, l3] st σ = Rx E d 248 2 [l0, l1, l2, l3] (.int (0) :: st) σ) ∧
  (∀ (E : sV) (d : Nat) (l1 : Option Value) (l2 : Option Value) (l3 : Option Value) (x : Nat) (st : List Value) (σ : sS), Rx E d 248 2 [some (.ref x), l1, l2, l3] st σ = Rx E d 248 3 [some (.ref x), l1, l2, l3] (.ref x :: st) σ) ∧
  (∀ (E : sV) (d : Nat) (l1 : Option Value) (l2 : Option Value) (l3 : Option Value) (st : List Value) (σ : sS), Rx E d 248 2 [some (.null), l1, l2, l3] st σ = Rx E d 248 3 [some (.null), l1, l2, l3] (.null :: st) σ) ∧
  (∀ (E : sV) (d : Nat) (l0 : Option Value) (l2 : Option Value) (l3 : Option Value) (x : Int32) (st : List Value) (σ : sS), Rx E d 248 3 [l0, some (.int x), l2, l3] st σ = Rx E d 248 4 [l0, some (.int x), l2, l3] (.int x :: st) σ) ∧
  (∀ (E : sV) (d : Nat) (l0 l1 l2 l3 : Option Value) (v1 : Value) (b : Nat) (st : List Value) (σ : sS) (hc : cats st ≤ 8) (hb : isOb σ.1 b 7 = true), Rx E d 248 4 [l0, l1, l2, l3] (v1 :: .ref b :: st) σ = fin E d 248 (sRet gm248 4 [l0, l1, l2, l3] st (Mt E d 79 [.ref b, v1] σ))) ∧
  (∀ (E : sV) (d : Nat) (l0 l1 l2 l3 : Option Value) (x : Int32) (st : List Value) (σ : sS), Rx E d 248 7 [l0, l1, l2, l3] (.int x :: st) σ = Rx E d 248 8 [l0, l1, l2, l3] (.long x.toInt64 :: st) σ) ∧
  (∀ (E : sV) (d : Nat) (l0 l1 l2 l3 : Option Value) (x : Int64) (i : Int32) (a : Nat) (st : List Value) (σ : sS), Rx E d 248 8 [l0, l1, l2, l3] (.long x :: .int i :: .ref a :: st) σ = if E.1 ≤ a then (astL σ.1 a i x).bind (fun h => Rx E d 248 9 [l0, l1, l2, l3] st (h, σ.2)) else none) ∧
  (∀ (E : sV) (d : Nat) (l0 l1 l2 l3 : Option Value) (st : List Value) (σ : sS), Rx E d 248 9 [l0, l1, l2, l3] st σ = Rx E d 248 15 [l0, l1, l2, l3] st σ) ∧
  (∀ (E : sV) (d : Nat) (l0 l1 l2 l3 : Option Value) (x : Nat) (st : List Value) (σ : sS), Rx E d 248 12 [l0, l1, l2, l3] (.ref x :: st) σ = Rx E d 248 13 [l0, l1, ldrop l2, some (.ref x)] st σ) ∧
  (∀ (E : sV) (d : Nat) (l0 l1 l2 l3 : Option Value) (st : List Value) (σ : sS), Rx E d 248 12 [l0, l1, l2, l3] (.null :: st) σ = Rx E d 248 13 [l0, l1, ldrop l2, some (.null)] st σ) ∧
  (∀ (E : sV) (d : Nat) (l0 l1 l2 l3 : Option Value) (st : List Value) (σ : sS), Rx E d 248 13 [l0, l1, l2, l3] st σ = Rx E d 248 14 [l0, l1, l2, l3] (.int (1) :: st) σ) ∧
  (∀ (E : sV) (d : Nat) (l0 l1 l2 l3 : Option Value) (v : Int32) (σ : sS), Rx E d 248 14 [l0, l1, l2, l3] [.int v] σ = some (.inl (some (.int v)), σ)) ∧
  (∀ (E : sV) (d : Nat) (l0 l1 l2 l3 : Option Value) (st : List Value) (σ : sS), Rx E d 248 15 [l0, l1, l2, l3] st σ = Rx E d 248 16 [l0, l1, l2, l3] (.int (0) :: st) σ) ∧
  (∀ (E : sV) (d : Nat) (l0 l1 l2 l3 : Option Value) (v : Int32) (σ : sS), Rx E d 248 16 [l0, l1, l2, l3] [.int v] σ = some (.inl (some (.int v)), σ)) := ⟨fun _ _ _ _ _ _ _ _ => Rx_of gMT_248 d248_0 rfl,
  fun _ _ _ _ _ _ _ => Rx_of gMT_248 d248_0 rfl,
  fun _ _ _ _ _ _ _ _ => Rx_of gMT_248 d248_1 rfl,
  fun _ _ _ _ _ _ _ _ => Rx_of gMT_248 d248_2 rfl,
  fun _ _ _ _ _ _ _ => Rx_of gMT_248 d248_2 rfl,
  fun _ _ _ _ _ _ _ _ => Rx_of gMT_248 d248_3 rfl,
  fun _ _ _ _ _ _ _ _ _ _ hc hb => Rx_callW gMT_248 d248_4 rfl rfl rfl rfl hc hb,
  fun _ _ _ _ _ _ _ _ _ => Rx_of gMT_248 d248_7 rfl,
  fun _ _ _ _ _ _ _ _ _ _ _ => Rx_ast gMT_248 d248_8 rfl rfl,
  fun _ _ _ _ _ _ _ _ => Rx_goto gMT_248 d248_9 rfl (by decide),
  fun _ _ _ _ _ _ _ _ _ => Rx_of gMT_248 d248_12 rfl,
  fun _ _ _ _ _ _ _ _ => Rx_of gMT_248 d248_12 rfl,
  fun _ _ _ _ _ _ _ _ => Rx_of gMT_248 d248_13 rfl,
  fun _ _ _ _ _ _ _ _ => Rx_iretI gMT_248 d248_14 rfl rfl,
  fun _ _ _ _ _ _ _ _ => Rx_of gMT_248 d248_15 rfl,
  fun _ _ _ _ _ _ _ _ => Rx_iretI gMT_248 d248_16 rfl rfl⟩
-- QLaw_cancelJob: QLaw_cancelJob_0
theorem NLaw_cancelJob (E : sV) (d : Nat) (a0 : Nat) (a1 : Int32) (a2 : Nat) (σ : sS) : Mt E (d + 1) 248 [.ref a0, .int a1, .ref a2] σ = Rx E d 248 0 [some (.ref a0), some (.int a1), some (.ref a2), none] [] σ := Mt_succ gMT_248 (Nat.le_of_ble_eq_true rfl)
theorem QLaw_assign_0 : (∀ (E : sV) (d : Nat) (l0 : Option Value) (l1 : Option Value) (l2 : Option Value) (l4 : Option Value) (x : Nat) (st : List Value) (σ : sS), Rx E d 249 0 [l0, l1, l2, some (.ref x), l4] st σ = Rx E d 249 1 [l0, l1, l2, some (.ref x), l4] (.ref x :: st) σ) ∧
  (∀ (E : sV) (d : Nat) (l0 : Option Value) (l1 : Option Value) (l2 : Option Value) (l4 : Option Value) (st : List Value) (σ : sS), Rx E d 249 0 [l0, l1, l2, some (.null), l4] st σ = Rx E d 249 1 [l0, l1, l2, some (.null), l4] (.null :: st) σ) ∧
  (∀ (E : sV) (d : Nat) (l0 l1 l2 l3 l4 : Option Value) (st : List Value) (σ : sS), Rx E d 249 1 [l0, l1, l2, l3, l4] st σ = Rx E d 249 2 [l0, l1, l2, l3, l4] (.int (0) :: st) σ) ∧
  (∀ (E : sV) (d : Nat) (l1 : Option Value) (l2 : Option Value) (l3 : Option Value) (l4 : Option Value) (x : Nat) (st : List Value) (σ : sS), Rx E d 249 2 [some (.ref x), l1, l2, l3, l4] st σ = Rx E d 249 3 [some (.ref x), l1, l2, l3, l4] (.ref x :: st) σ) ∧
  (∀ (E : sV) (d : Nat) (l1 : Option Value) (l2 : Option Value) (l3 : Option Value) (l4 : Option Value) (st : List Value) (σ : sS), Rx E d 249 2 [some (.null), l1, l2, l3, l4] st σ = Rx E d 249 3 [some (.null), l1, l2, l3, l4] (.null :: st) σ) ∧
  (∀ (E : sV) (d : Nat) (l0 : Option Value) (l2 : Option Value) (l3 : Option Value) (l4 : Option Value) (x : Int32) (st : List Value) (σ : sS), Rx E d 249 3 [l0, some (.int x), l2, l3, l4] st σ = Rx E d 249 4 [l0, some (.int x), l2, l3, l4] (.int x :: st) σ) ∧
  (∀ (E : sV) (d : Nat) (l0 : Option Value) (l1 : Option Value) (l3 : Option Value) (l4 : Option Value) (x : Int32) (st : List Value) (σ : sS), Rx E d 249 4 [l0, l1, some (.int x), l3, l4] st σ = Rx E d 249 5 [l0, l1, some (.int x), l3, l4] (.int x :: st) σ) ∧
  (∀ (E : sV) (d : Nat) (l0 l1 l2 l3 l4 : Option Value) (v1 v2 : Value) (b : Nat) (st : List Value) (σ : sS) (hc : cats st ≤ 8) (hb : isOb σ.1 b 7 = true), Rx E d 249 5 [l0, l1, l2, l3, l4] (v2 :: v1 :: .ref b :: st) σ = fin E d 249 (sRet gm249 5 [l0, l1, l2, l3, l4] st (Mt E d 80 [.ref b, v1, v2] σ))) ∧
  (∀ (E : sV) (d : Nat) (l0 l1 l2 l3 l4 : Option Value) (x : Int32) (st : List Value) (σ : sS), Rx E d 249 8 [l0, l1, l2, l3, l4] (.int x :: st) σ = Rx E d 249 9 [l0, l1, l2, l3, l4] (.long x.toInt64 :: st) σ) ∧
  (∀ (E : sV) (d : Nat) (l0 l1 l2 l3 l4 : Option Value) (x : Int64) (i : Int32) (a : Nat) (st : List Value) (σ : sS), Rx E d 249 9 [l0, l1, l2, l3, l4] (.long x :: .int i :: .ref a :: st) σ = if E.1 ≤ a then (astL σ.1 a i x).bind (fun h => Rx E d 249 10 [l0, l1, l2, l3, l4] st (h, σ.2)) else none) ∧
  (∀ (E : sV) (d : Nat) (l0 l1 l2 l3 l4 : Option Value) (st : List Value) (σ : sS), Rx E d 249 10 [l0, l1, l2, l3, l4] st σ = Rx E d 249 25 [l0, l1, l2, l3, l4] st σ) ∧
  (∀ (E : sV) (d : Nat) (l0 l1 l2 l3 l4 : Option Value) (x : Nat) (st : List Value) (σ : sS), Rx E d 249 13 [l0, l1, l2, l3, l4] (.ref x :: st) σ = Rx E d 249 15 [l0, l1, l2, ldrop l3, some (.ref x)] st σ) ∧
  (∀ (E : sV) (d : Nat) (l0 l1 l2 l3 l4 : Option Value) (st : List Value) (σ : sS), Rx E d 249 13 [l0, l1, l2, l3, l4] (.null :: st) σ = Rx E d 249 15 [l0, l1, l2, ldrop l3, some (.null)] st σ) ∧
  (∀ (E : sV) (d : Nat) (l0 l1 l2 l3 l4 : Option Value) (st : List Value) (σ : sS), Rx E d 249 15 [l0, l1, l2, l3, l4] st σ = Rx E d 249 16 [l0, l1, l2, l3, l4] (.int (1) :: st) σ) ∧
  (∀ (E : sV) (d : Nat) (l0 l1 l2 l3 l4 : Option Value) (v : Int32) (σ : sS), Rx E d 249 16 [l0, l1, l2, l3, l4] [.int v] σ = some (.inl (some (.int v)), σ)) ∧
  (∀ (E : sV) (d : Nat) (l0 l1 l2 l3 l4 : Option Value) (x : Nat) (st : List Value) (σ : sS), Rx E d 249 17 [l0, l1, l2, l3, l4] (.ref x :: st) σ = Rx E d 249 19 [l0, l1, l2, ldrop l3, some (.ref x)] st σ) ∧
  (∀ (E : sV) (d : Nat) (l0 l1 l2 l3 l4 : Option Value) (st : List Value) (σ : sS), Rx E d 249 17 [l0, l1, l2, l3, l4] (.null :: st) σ = Rx E d 249 19 [l0, l1, l2, ldrop l3, some (.null)] st σ) ∧
  (∀ (E : sV) (d : Nat) (l0 l1 l2 l3 l4 : Option Value) (st : List Value) (σ : sS), Rx E d 249 19 [l0, l1, l2, l3, l4] st σ = Rx E d 249 20 [l0, l1, l2, l3, l4] (.int (2) :: st) σ) ∧
  (∀ (E : sV) (d : Nat) (l0 l1 l2 l3 l4 : Option Value) (v : Int32) (σ : sS), Rx E d 249 20 [l0, l1, l2, l3, l4] [.int v] σ = some (.inl (some (.int v)), σ)) ∧
  (∀ (E : sV) (d : Nat) (l0 l1 l2 l3 l4 : Option Value) (x : Nat) (st : List Value) (σ : sS), Rx E d 249 21 [l0, l1, l2, l3, l4] (.ref x :: st) σ = Rx E d 249 23 [l0, l1, l2, ldrop l3, some (.ref x)] st σ) ∧
  (∀ (E : sV) (d : Nat) (l0 l1 l2 l3 l4 : Option Value) (st : List Value) (σ : sS), Rx E d 249 21 [l0, l1, l2, l3, l4] (.null :: st) σ = Rx E d 249 23 [l0, l1, l2, ldrop l3, some (.null)] st σ) ∧
  (∀ (E : sV) (d : Nat) (l0 l1 l2 l3 l4 : Option Value) (st : List Value) (σ : sS), Rx E d 249 23 [l0, l1, l2, l3, l4] st σ = Rx E d 249 24 [l0, l1, l2, l3, l4] (.int (3) :: st) σ) ∧
  (∀ (E : sV) (d : Nat) (l0 l1 l2 l3 l4 : Option Value) (v : Int32) (σ : sS), Rx E d 249 24 [l0, l1, l2, l3, l4] [.int v] σ = some (.inl (some (.int v)), σ)) ∧
  (∀ (E : sV) (d : Nat) (l0 l1 l2 l3 l4 : Option Value) (st : List Value) (σ : sS), Rx E d 249 25 [l0, l1, l2, l3, l4] st σ = Rx E d 249 26 [l0, l1, l2, l3, l4] (.int (0) :: st) σ) ∧
  (∀ (E : sV) (d : Nat) (l0 l1 l2 l3 l4 : Option Value) (v : Int32) (σ : sS), Rx E d 249 26 [l0, l1, l2, l3, l4] [.int v] σ = some (.inl (some (.int v)), σ)) := ⟨fun _ _ _ _ _ _ _ _ _ => Rx_of gMT_249 d249_0 rfl,
  fun _ _ _ _ _ _ _ _ => Rx_of gMT_249 d249_0 rfl,
  fun _ _ _ _ _ _ _ _ _ => Rx_of gMT_249 d249_1 rfl,
  fun _ _ _ _ _ _ _ _ _ => Rx_of gMT_249 d249_2 rfl,
  fun _ _ _ _ _ _ _ _ => Rx_of gMT_249 d249_2 rfl,
  fun _ _ _ _ _ _ _ _ _ => Rx_of gMT_249 d249_3 rfl,
  fun _ _ _ _ _ _ _ _ _ => Rx_of gMT_249 d249_4 rfl,
  fun _ _ _ _ _ _ _ _ _ _ _ _ hc hb => Rx_callW gMT_249 d249_5 rfl rfl rfl rfl hc hb,
  fun _ _ _ _ _ _ _ _ _ _ => Rx_of gMT_249 d249_8 rfl,
  fun _ _ _ _ _ _ _ _ _ _ _ _ => Rx_ast gMT_249 d249_9 rfl rfl,
  fun _ _ _ _ _ _ _ _ _ => Rx_goto gMT_249 d249_10 rfl (by decide),
  fun _ _ _ _ _ _ _ _ _ _ => Rx_of gMT_249 d249_13 rfl,
  fun _ _ _ _ _ _ _ _ _ => Rx_of gMT_249 d249_13 rfl,
  fun _ _ _ _ _ _ _ _ _ => Rx_of gMT_249 d249_15 rfl,
  fun _ _ _ _ _ _ _ _ _ => Rx_iretI gMT_249 d249_16 rfl rfl,
  fun _ _ _ _ _ _ _ _ _ _ => Rx_of gMT_249 d249_17 rfl,
  fun _ _ _ _ _ _ _ _ _ => Rx_of gMT_249 d249_17 rfl,
  fun _ _ _ _ _ _ _ _ _ => Rx_of gMT_249 d249_19 rfl,
  fun _ _ _ _ _ _ _ _ _ => Rx_iretI gMT_249 d249_20 rfl rfl,
  fun _ _ _ _ _ _ _ _ _ _ => Rx_of gMT_249 d249_21 rfl,
  fun _ _ _ _ _ _ _ _ _ => Rx_of gMT_249 d249_21 rfl,
  fun _ _ _ _ _ _ _ _ _ => Rx_of gMT_249 d249_23 rfl,
  fun _ _ _ _ _ _ _ _ _ => Rx_iretI gMT_249 d249_24 rfl rfl,
  fun _ _ _ _ _ _ _ _ _ => Rx_of gMT_249 d249_25 rfl,
  fun _ _ _ _ _ _ _ _ _ => Rx_iretI gMT_249 d249_26 rfl rfl⟩
-- QLaw_assign: QLaw_assign_0
theorem NLaw_assign (E : sV) (d : Nat) (a0 : Nat) (a1 : Int32) (a2 : Int32) (a3 : Nat) (σ : sS) : Mt E (d + 1) 249 [.ref a0, .int a1, .int a2, .ref a3] σ = Rx E d 249 0 [some (.ref a0), some (.int a1), some (.int a2), some (.ref a3), none] [] σ := Mt_succ gMT_249 (Nat.le_of_ble_eq_true rfl)
theorem QLaw_unassign_0 : (∀ (E : sV) (d : Nat) (l0 : Option Value) (l1 : Option Value) (l3 : Option Value) (x : Nat) (st : List Value) (σ : sS), Rx E d 250 0 [l0, l1, some (.ref x), l3] st σ = Rx E d 250 1 [l0, l1, some (.ref x), l3] (.ref x :: st) σ) ∧
  (∀ (E : sV) (d : Nat) (l0 : Option Value) (l1 : Option Value) (l3 : Option Value) (st : List Value) (σ : sS), Rx E d 250 0 [l0, l1, some (.null), l3] st σ = Rx E d 250 1 [l0, l1, some (.null), l3] (.null :: st) σ) ∧
  (∀ (E : sV) (d : Nat) (l0 l1 l2 l3 : Option Value) (st : List Value) (σ : sS), Rx E d 250 1 [l0, l1, l2, l3] st σ = Rx E d 250 2 [l0, l1, l2, l3] (.int (0) :: st) σ) ∧
  (∀ (E : sV) (d : Nat) (l1 : Option Value) (l2 : Option Value) (l3 : Option Value) (x : Nat) (st : List Value) (σ : sS), Rx E d 250 2 [some (.ref x), l1, l2, l3] st σ = Rx E d 250 3 [some (.ref x), l1, l2, l3] (.ref x :: st) σ) ∧
  (∀ (E : sV) (d : Nat) (l1 : Option Value) (l2 : Option Value) (l3 : Option Value) (st : List Value) (σ : sS), Rx E d 250 2 [some (.null), l1, l2, l3] st σ = Rx E d 250 3 [some (.null), l1, l2, l3] (.null :: st) σ) ∧
  (∀ (E : sV) (d : Nat) (l0 : Option Value) (l2 : Option Value) (l3 : Option Value) (x : Int32) (st : List Value) (σ : sS), Rx E d 250 3 [l0, some (.int x), l2, l3] st σ = Rx E d 250 4 [l0, some (.int x), l2, l3] (.int x :: st) σ) ∧
  (∀ (E : sV) (d : Nat) (l0 l1 l2 l3 : Option Value) (v1 : Value) (b : Nat) (st : List Value) (σ : sS) (hc : cats st ≤ 8) (hb : isOb σ.1 b 7 = true), Rx E d 250 4 [l0, l1, l2, l3] (v1 :: .ref b :: st) σ = fin E d 250 (sRet gm250 4 [l0, l1, l2, l3] st (Mt E d 81 [.ref b, v1] σ))) ∧
  (∀ (E : sV) (d : Nat) (l0 l1 l2 l3 : Option Value) (x : Int32) (st : List Value) (σ : sS), Rx E d 250 7 [l0, l1, l2, l3] (.int x :: st) σ = Rx E d 250 8 [l0, l1, l2, l3] (.long x.toInt64 :: st) σ) ∧
  (∀ (E : sV) (d : Nat) (l0 l1 l2 l3 : Option Value) (x : Int64) (i : Int32) (a : Nat) (st : List Value) (σ : sS), Rx E d 250 8 [l0, l1, l2, l3] (.long x :: .int i :: .ref a :: st) σ = if E.1 ≤ a then (astL σ.1 a i x).bind (fun h => Rx E d 250 9 [l0, l1, l2, l3] st (h, σ.2)) else none) ∧
  (∀ (E : sV) (d : Nat) (l0 l1 l2 l3 : Option Value) (st : List Value) (σ : sS), Rx E d 250 9 [l0, l1, l2, l3] st σ = Rx E d 250 18 [l0, l1, l2, l3] st σ) ∧
  (∀ (E : sV) (d : Nat) (l0 l1 l2 l3 : Option Value) (x : Nat) (st : List Value) (σ : sS), Rx E d 250 12 [l0, l1, l2, l3] (.ref x :: st) σ = Rx E d 250 13 [l0, l1, ldrop l2, some (.ref x)] st σ) ∧
  (∀ (E : sV) (d : Nat) (l0 l1 l2 l3 : Option Value) (st : List Value) (σ : sS), Rx E d 250 12 [l0, l1, l2, l3] (.null :: st) σ = Rx E d 250 13 [l0, l1, ldrop l2, some (.null)] st σ) ∧
  (∀ (E : sV) (d : Nat) (l0 l1 l2 l3 : Option Value) (st : List Value) (σ : sS), Rx E d 250 13 [l0, l1, l2, l3] st σ = Rx E d 250 14 [l0, l1, l2, l3] (.int (1) :: st) σ) ∧
  (∀ (E : sV) (d : Nat) (l0 l1 l2 l3 : Option Value) (v : Int32) (σ : sS), Rx E d 250 14 [l0, l1, l2, l3] [.int v] σ = some (.inl (some (.int v)), σ)) ∧
  (∀ (E : sV) (d : Nat) (l0 l1 l2 l3 : Option Value) (x : Nat) (st : List Value) (σ : sS), Rx E d 250 15 [l0, l1, l2, l3] (.ref x :: st) σ = Rx E d 250 16 [l0, l1, ldrop l2, some (.ref x)] st σ) ∧
  (∀ (E : sV) (d : Nat) (l0 l1 l2 l3 : Option Value) (st : List Value) (σ : sS), Rx E d 250 15 [l0, l1, l2, l3] (.null :: st) σ = Rx E d 250 16 [l0, l1, ldrop l2, some (.null)] st σ) ∧
  (∀ (E : sV) (d : Nat) (l0 l1 l2 l3 : Option Value) (st : List Value) (σ : sS), Rx E d 250 16 [l0, l1, l2, l3] st σ = Rx E d 250 17 [l0, l1, l2, l3] (.int (2) :: st) σ) ∧
  (∀ (E : sV) (d : Nat) (l0 l1 l2 l3 : Option Value) (v : Int32) (σ : sS), Rx E d 250 17 [l0, l1, l2, l3] [.int v] σ = some (.inl (some (.int v)), σ)) ∧
  (∀ (E : sV) (d : Nat) (l0 l1 l2 l3 : Option Value) (st : List Value) (σ : sS), Rx E d 250 18 [l0, l1, l2, l3] st σ = Rx E d 250 19 [l0, l1, l2, l3] (.int (0) :: st) σ) ∧
  (∀ (E : sV) (d : Nat) (l0 l1 l2 l3 : Option Value) (v : Int32) (σ : sS), Rx E d 250 19 [l0, l1, l2, l3] [.int v] σ = some (.inl (some (.int v)), σ)) := ⟨fun _ _ _ _ _ _ _ _ => Rx_of gMT_250 d250_0 rfl,
  fun _ _ _ _ _ _ _ => Rx_of gMT_250 d250_0 rfl,
  fun _ _ _ _ _ _ _ _ => Rx_of gMT_250 d250_1 rfl,
  fun _ _ _ _ _ _ _ _ => Rx_of gMT_250 d250_2 rfl,
  fun _ _ _ _ _ _ _ => Rx_of gMT_250 d250_2 rfl,
  fun _ _ _ _ _ _ _ _ => Rx_of gMT_250 d250_3 rfl,
  fun _ _ _ _ _ _ _ _ _ _ hc hb => Rx_callW gMT_250 d250_4 rfl rfl rfl rfl hc hb,
  fun _ _ _ _ _ _ _ _ _ => Rx_of gMT_250 d250_7 rfl,
  fun _ _ _ _ _ _ _ _ _ _ _ => Rx_ast gMT_250 d250_8 rfl rfl,
  fun _ _ _ _ _ _ _ _ => Rx_goto gMT_250 d250_9 rfl (by decide),
  fun _ _ _ _ _ _ _ _ _ => Rx_of gMT_250 d250_12 rfl,
  fun _ _ _ _ _ _ _ _ => Rx_of gMT_250 d250_12 rfl,
  fun _ _ _ _ _ _ _ _ => Rx_of gMT_250 d250_13 rfl,
  fun _ _ _ _ _ _ _ _ => Rx_iretI gMT_250 d250_14 rfl rfl,
  fun _ _ _ _ _ _ _ _ _ => Rx_of gMT_250 d250_15 rfl,
  fun _ _ _ _ _ _ _ _ => Rx_of gMT_250 d250_15 rfl,
  fun _ _ _ _ _ _ _ _ => Rx_of gMT_250 d250_16 rfl,
  fun _ _ _ _ _ _ _ _ => Rx_iretI gMT_250 d250_17 rfl rfl,
  fun _ _ _ _ _ _ _ _ => Rx_of gMT_250 d250_18 rfl,
  fun _ _ _ _ _ _ _ _ => Rx_iretI gMT_250 d250_19 rfl rfl⟩
-- QLaw_unassign: QLaw_unassign_0
theorem NLaw_unassign (E : sV) (d : Nat) (a0 : Nat) (a1 : Int32) (a2 : Nat) (σ : sS) : Mt E (d + 1) 250 [.ref a0, .int a1, .ref a2] σ = Rx E d 250 0 [some (.ref a0), some (.int a1), some (.ref a2), none] [] σ := Mt_succ gMT_250 (Nat.le_of_ble_eq_true rfl)
theorem QLaw_addStock_0 : (∀ (E : sV) (d : Nat) (l0 : Option Value) (l1 : Option Value) (l2 : Option Value) (l4 : Option Value) (x : Nat) (st : List Value) (σ : sS), Rx E d 251 0 [l0, l1, l2, some (.ref x), l4] st σ = Rx E d 251 1 [l0, l1, l2, some (.ref x), l4] (.ref x :: st) σ) ∧
  (∀ (E : sV) (d : Nat) (l0 : Option Value) (l1 : Option Value) (l2 : Option Value) (l4 : Option Value) (st : List Value) (σ : sS), Rx E d 251 0 [l0, l1, l2, some (.null), l4] st σ = Rx E d 251 1 [l0, l1, l2, some (.null), l4] (.null :: st) σ) ∧
  (∀ (E : sV) (d : Nat) (l0 l1 l2 l3 l4 : Option Value) (st : List Value) (σ : sS), Rx E d 251 1 [l0, l1, l2, l3, l4] st σ = Rx E d 251 2 [l0, l1, l2, l3, l4] (.int (0) :: st) σ) ∧
  (∀ (E : sV) (d : Nat) (l1 : Option Value) (l2 : Option Value) (l3 : Option Value) (l4 : Option Value) (x : Nat) (st : List Value) (σ : sS), Rx E d 251 2 [some (.ref x), l1, l2, l3, l4] st σ = Rx E d 251 3 [some (.ref x), l1, l2, l3, l4] (.ref x :: st) σ) ∧
  (∀ (E : sV) (d : Nat) (l1 : Option Value) (l2 : Option Value) (l3 : Option Value) (l4 : Option Value) (st : List Value) (σ : sS), Rx E d 251 2 [some (.null), l1, l2, l3, l4] st σ = Rx E d 251 3 [some (.null), l1, l2, l3, l4] (.null :: st) σ) ∧
  (∀ (E : sV) (d : Nat) (l0 : Option Value) (l2 : Option Value) (l3 : Option Value) (l4 : Option Value) (x : Int32) (st : List Value) (σ : sS), Rx E d 251 3 [l0, some (.int x), l2, l3, l4] st σ = Rx E d 251 4 [l0, some (.int x), l2, l3, l4] (.int x :: st) σ) ∧
  (∀ (E : sV) (d : Nat) (l0 : Option Value) (l1 : Option Value) (l3 : Option Value) (l4 : Option Value) (x : Int32) (st : List Value) (σ : sS), Rx E d 251 4 [l0, l1, some (.int x), l3, l4] st σ = Rx E d 251 5 [l0, l1, some (.int x), l3, l4] (.int x :: st) σ) ∧
  (∀ (E : sV) (d : Nat) (l0 l1 l2 l3 l4 : Option Value) (v1 v2 : Value) (b : Nat) (st : List Value) (σ : sS) (hc : cats st ≤ 8) (hb : isOb σ.1 b 7 = true), Rx E d 251 5 [l0, l1, l2, l3, l4] (v2 :: v1 :: .ref b :: st) σ = fin E d 251 (sRet gm251 5 [l0, l1, l2, l3, l4] st (Mt E d 82 [.ref b, v1, v2] σ))) ∧
  (∀ (E : sV) (d : Nat) (l0 l1 l2 l3 l4 : Option Value) (x : Int32) (st : List Value) (σ : sS), Rx E d 251 8 [l0, l1, l2, l3, l4] (.int x :: st) σ = Rx E d 251 9 [l0, l1, l2, l3, l4] (.long x.toInt64 :: st) σ) ∧
  (∀ (E : sV) (d : Nat) (l0 l1 l2 l3 l4 : Option Value) (x : Int64) (i : Int32) (a : Nat) (st : List Value) (σ : sS), Rx E d 251 9 [l0, l1, l2, l3, l4] (.long x :: .int i :: .ref a :: st) σ = if E.1 ≤ a then (astL σ.1 a i x).bind (fun h => Rx E d 251 10 [l0, l1, l2, l3, l4] st (h, σ.2)) else none) ∧
  (∀ (E : sV) (d : Nat) (l0 l1 l2 l3 l4 : Option Value) (st : List Value) (σ : sS), Rx E d 251 10 [l0, l1, l2, l3, l4] st σ = Rx E d 251 21 [l0, l1, l2, l3, l4] st σ) ∧
  (∀ (E : sV) (d : Nat) (l0 l1 l2 l3 l4 : Option Value) (x : Nat) (st : List Value) (σ : sS), Rx E d 251 13 [l0, l1, l2, l3, l4] (.ref x :: st) σ = Rx E d 251 15 [l0, l1, l2, ldrop l3, some (.ref x)] st σ) ∧
  (∀ (E : sV) (d : Nat) (l0 l1 l2 l3 l4 : Option Value) (st : List Value) (σ : sS), Rx E d 251 13 [l0, l1, l2, l3, l4] (.null :: st) σ = Rx E d 251 15 [l0, l1, l2, ldrop l3, some (.null)] st σ) ∧
  (∀ (E : sV) (d : Nat) (l0 l1 l2 l3 l4 : Option Value) (st : List Value) (σ : sS), Rx E d 251 15 [l0, l1, l2, l3, l4] st σ = Rx E d 251 16 [l0, l1, l2, l3, l4] (.int (1) :: st) σ) ∧
  (∀ (E : sV) (d : Nat) (l0 l1 l2 l3 l4 : Option Value) (v : Int32) (σ : sS), Rx E d 251 16 [l0, l1, l2, l3, l4] [.int v] σ = some (.inl (some (.int v)), σ)) ∧
  (∀ (E : sV) (d : Nat) (l0 l1 l2 l3 l4 : Option Value) (x : Nat) (st : List Value) (σ : sS), Rx E d 251 17 [l0, l1, l2, l3, l4] (.ref x :: st) σ = Rx E d 251 19 [l0, l1, l2, ldrop l3, some (.ref x)] st σ) ∧
  (∀ (E : sV) (d : Nat) (l0 l1 l2 l3 l4 : Option Value) (st : List Value) (σ : sS), Rx E d 251 17 [l0, l1, l2, l3, l4] (.null :: st) σ = Rx E d 251 19 [l0, l1, l2, ldrop l3, some (.null)] st σ) ∧
  (∀ (E : sV) (d : Nat) (l0 l1 l2 l3 l4 : Option Value) (st : List Value) (σ : sS), Rx E d 251 19 [l0, l1, l2, l3, l4] st σ = Rx E d 251 20 [l0, l1, l2, l3, l4] (.int (2) :: st) σ) ∧
  (∀ (E : sV) (d : Nat) (l0 l1 l2 l3 l4 : Option Value) (v : Int32) (σ : sS), Rx E d 251 20 [l0, l1, l2, l3, l4] [.int v] σ = some (.inl (some (.int v)), σ)) ∧
  (∀ (E : sV) (d : Nat) (l0 l1 l2 l3 l4 : Option Value) (st : List Value) (σ : sS), Rx E d 251 21 [l0, l1, l2, l3, l4] st σ = Rx E d 251 22 [l0, l1, l2, l3, l4] (.int (0) :: st) σ) ∧
  (∀ (E : sV) (d : Nat) (l0 l1 l2 l3 l4 : Option Value) (v : Int32) (σ : sS), Rx E d 251 22 [l0, l1, l2, l3, l4] [.int v] σ = some (.inl (some (.int v)), σ)) := ⟨fun _ _ _ _ _ _ _ _ _ => Rx_of gMT_251 d251_0 rfl,
  fun _ _ _ _ _ _ _ _ => Rx_of gMT_251 d251_0 rfl,
  fun _ _ _ _ _ _ _ _ _ => Rx_of gMT_251 d251_1 rfl,
  fun _ _ _ _ _ _ _ _ _ => Rx_of gMT_251 d251_2 rfl,
  fun _ _ _ _ _ _ _ _ => Rx_of gMT_251 d251_2 rfl,
  fun _ _ _ _ _ _ _ _ _ => Rx_of gMT_251 d251_3 rfl,
  fun _ _ _ _ _ _ _ _ _ => Rx_of gMT_251 d251_4 rfl,
  fun _ _ _ _ _ _ _ _ _ _ _ _ hc hb => Rx_callW gMT_251 d251_5 rfl rfl rfl rfl hc hb,
  fun _ _ _ _ _ _ _ _ _ _ => Rx_of gMT_251 d251_8 rfl,
  fun _ _ _ _ _ _ _ _ _ _ _ _ => Rx_ast gMT_251 d251_9 rfl rfl,
  fun _ _ _ _ _ _ _ _ _ => Rx_goto gMT_251 d251_10 rfl (by decide),
  fun _ _ _ _ _ _ _ _ _ _ => Rx_of gMT_251 d251_13 rfl,
  fun _ _ _ _ _ _ _ _ _ => Rx_of gMT_251 d251_13 rfl,
  fun _ _ _ _ _ _ _ _ _ => Rx_of gMT_251 d251_15 rfl,
  fun _ _ _ _ _ _ _ _ _ => Rx_iretI gMT_251 d251_16 rfl rfl,
  fun _ _ _ _ _ _ _ _ _ _ => Rx_of gMT_251 d251_17 rfl,
  fun _ _ _ _ _ _ _ _ _ => Rx_of gMT_251 d251_17 rfl,
  fun _ _ _ _ _ _ _ _ _ => Rx_of gMT_251 d251_19 rfl,
  fun _ _ _ _ _ _ _ _ _ => Rx_iretI gMT_251 d251_20 rfl rfl,
  fun _ _ _ _ _ _ _ _ _ => Rx_of gMT_251 d251_21 rfl,
  fun _ _ _ _ _ _ _ _ _ => Rx_iretI gMT_251 d251_22 rfl rfl⟩
-- QLaw_addStock: QLaw_addStock_0
theorem NLaw_addStock (E : sV) (d : Nat) (a0 : Nat) (a1 : Int32) (a2 : Int32) (a3 : Nat) (σ : sS) : Mt E (d + 1) 251 [.ref a0, .int a1, .int a2, .ref a3] σ = Rx E d 251 0 [some (.ref a0), some (.int a1), some (.int a2), some (.ref a3), none] [] σ := Mt_succ gMT_251 (Nat.le_of_ble_eq_true rfl)
theorem QLaw_load_0 : (∀ (E : sV) (d : Nat) (l0 : Option Value) (l1 : Option Value) (l2 : Option Value) (l3 : Option Value) (l5 : Option Value) (x : Nat) (st : List Value) (σ : sS), Rx E d 252 0 [l0, l1, l2, l3, some (.ref x), l5] st σ = Rx E d 252 2 [l0, l1, l2, l3, some (.ref x), l5] (.ref x :: st) σ) ∧
  (∀ (E : sV) (d : Nat) (l0 : Option Value) (l1 : Option Value) (l2 : Option Value) (l3 : Option Value) (l5 : Option Value) (st : List Value) (σ : sS), Rx E d 252 0 [l0, l1, l2, l3, some (.null), l5] st σ = Rx E d 252 2 [l0, l1, l2, l3, some (.null), l5] (.null :: st) σ) ∧
  (∀ (E : sV) (d : Nat) (l0 l1 l2 l3 l4 l5 : Option Value) (st : List Value) (σ : sS), Rx E d 252 2 [l0, l1, l2, l3, l4, l5] st σ = Rx E d 252 3 [l0, l1, l2, l3, l4, l5] (.int (0) :: st) σ) ∧
  (∀ (E : sV) (d : Nat) (l1 : Option Value) (l2 : Option Value) (l3 : Option Value) (l4 : Option Value) (l5 : Option Value) (x : Nat) (st : List Value) (σ : sS), Rx E d 252 3 [some (.ref x), l1, l2, l3, l4, l5] st σ = Rx E d 252 4 [some (.ref x), l1, l2, l3, l4, l5] (.ref x :: st) σ) ∧
  (∀ (E : sV) (d : Nat) (l1 : Option Value) (l2 : Option Value) (l3 : Option Value) (l4 : Option Value) (l5 : Option Value) (st : List Value) (σ : sS), Rx E d 252 3 [some (.null), l1, l2, l3, l4, l5] st σ = Rx E d 252 4 [some (.null), l1, l2, l3, l4, l5] (.null :: st) σ) ∧
  (∀ (E : sV) (d : Nat) (l0 : Option Value) (l2 : Option Value) (l3 : Option Value) (l4 : Option Value) (l5 : Option Value) (x : Int32) (st : List Value) (σ : sS), Rx E d 252 4 [l0, some (.int x), l2, l3, l4, l5] st σ = Rx E d 252 5 [l0, some (.int x), l2, l3, l4, l5] (.int x :: st) σ) ∧
  (∀ (E : sV) (d : Nat) (l0 : Option Value) (l1 : Option Value) (l3 : Option Value) (l4 : Option Value) (l5 : Option Value) (x : Int32) (st : List Value) (σ : sS), Rx E d 252 5 [l0, l1, some (.int x), l3, l4, l5] st σ = Rx E d 252 6 [l0, l1, some (.int x), l3, l4, l5] (.int x :: st) σ) ∧
  (∀ (E : sV) (d : Nat) (l0 : Option Value) (l1 : Option Value) (l2 : Option Value) (l4 : Option Value) (l5 : Option Value) (x : Int32) (st : List Value) (σ : sS), Rx E d 252 6 [l0, l1, l2, some (.int x), l4, l5] st σ = Rx E d 252 7 [l0, l1, l2, some (.int x), l4, l5] (.int x :: st) σ) ∧
  (∀ (E : sV) (d : Nat) (l0 l1 l2 l3 l4 l5 : Option Value) (v1 v2 v3 : Value) (b : Nat) (st : List Value) (σ : sS) (hc : cats st ≤ 8) (hb : isOb σ.1 b 7 = true), Rx E d 252 7 [l0, l1, l2, l3, l4, l5] (v3 :: v2 :: v1 :: .ref b :: st) σ = fin E d 252 (sRet gm252 7 [l0, l1, l2, l3, l4, l5] st (Mt E d 83 [.ref b, v1, v2, v3] σ))) ∧
  (∀ (E : sV) (d : Nat) (l0 l1 l2 l3 l4 l5 : Option Value) (x : Int32) (st : List Value) (σ : sS), Rx E d 252 10 [l0, l1, l2, l3, l4, l5] (.int x :: st) σ = Rx E d 252 11 [l0, l1, l2, l3, l4, l5] (.long x.toInt64 :: st) σ) ∧
  (∀ (E : sV) (d : Nat) (l0 l1 l2 l3 l4 l5 : Option Value) (x : Int64) (i : Int32) (a : Nat) (st : List Value) (σ : sS), Rx E d 252 11 [l0, l1, l2, l3, l4, l5] (.long x :: .int i :: .ref a :: st) σ = if E.1 ≤ a then (astL σ.1 a i x).bind (fun h => Rx E d 252 12 [l0, l1, l2, l3, l4, l5] st (h, σ.2)) else none) ∧
  (∀ (E : sV) (d : Nat) (l0 l1 l2 l3 l4 l5 : Option Value) (st : List Value) (σ : sS), Rx E d 252 12 [l0, l1, l2, l3, l4, l5] st σ = Rx E d 252 31 [l0, l1, l2, l3, l4, l5] st σ) ∧
  (∀ (E : sV) (d : Nat) (l0 l1 l2 l3 l4 l5 : Option Value) (x : Nat) (st : List Value) (σ : sS), Rx E d 252 15 [l0, l1, l2, l3, l4, l5] (.ref x :: st) σ = Rx E d 252 17 [l0, l1, l2, l3, ldrop l4, some (.ref x)] st σ) ∧
  (∀ (E : sV) (d : Nat) (l0 l1 l2 l3 l4 l5 : Option Value) (st : List Value) (σ : sS), Rx E d 252 15 [l0, l1, l2, l3, l4, l5] (.null :: st) σ = Rx E d 252 17 [l0, l1, l2, l3, ldrop l4, some (.null)] st σ) ∧
  (∀ (E : sV) (d : Nat) (l0 l1 l2 l3 l4 l5 : Option Value) (st : List Value) (σ : sS), Rx E d 252 17 [l0, l1, l2, l3, l4, l5] st σ = Rx E d 252 18 [l0, l1, l2, l3, l4, l5] (.int (1) :: st) σ) ∧
  (∀ (E : sV) (d : Nat) (l0 l1 l2 l3 l4 l5 : Option Value) (v : Int32) (σ : sS), Rx E d 252 18 [l0, l1, l2, l3, l4, l5] [.int v] σ = some (.inl (some (.int v)), σ)) ∧
  (∀ (E : sV) (d : Nat) (l0 l1 l2 l3 l4 l5 : Option Value) (x : Nat) (st : List Value) (σ : sS), Rx E d 252 19 [l0, l1, l2, l3, l4, l5] (.ref x :: st) σ = Rx E d 252 21 [l0, l1, l2, l3, ldrop l4, some (.ref x)] st σ) ∧
  (∀ (E : sV) (d : Nat) (l0 l1 l2 l3 l4 l5 : Option Value) (st : List Value) (σ : sS), Rx E d 252 19 [l0, l1, l2, l3, l4, l5] (.null :: st) σ = Rx E d 252 21 [l0, l1, l2, l3, ldrop l4, some (.null)] st σ) ∧
  (∀ (E : sV) (d : Nat) (l0 l1 l2 l3 l4 l5 : Option Value) (st : List Value) (σ : sS), Rx E d 252 21 [l0, l1, l2, l3, l4, l5] st σ = Rx E d 252 22 [l0, l1, l2, l3, l4, l5] (.int (2) :: st) σ) ∧
  (∀ (E : sV) (d : Nat) (l0 l1 l2 l3 l4 l5 : Option Value) (v : Int32) (σ : sS), Rx E d 252 22 [l0, l1, l2, l3, l4, l5] [.int v] σ = some (.inl (some (.int v)), σ)) ∧
  (∀ (E : sV) (d : Nat) (l0 l1 l2 l3 l4 l5 : Option Value) (x : Nat) (st : List Value) (σ : sS), Rx E d 252 23 [l0, l1, l2, l3, l4, l5] (.ref x :: st) σ = Rx E d 252 25 [l0, l1, l2, l3, ldrop l4, some (.ref x)] st σ) ∧
  (∀ (E : sV) (d : Nat) (l0 l1 l2 l3 l4 l5 : Option Value) (st : List Value) (σ : sS), Rx E d 252 23 [l0, l1, l2, l3, l4, l5] (.null :: st) σ = Rx E d 252 25 [l0, l1, l2, l3, ldrop l4, some (.null)] st σ) ∧
  (∀ (E : sV) (d : Nat) (l0 l1 l2 l3 l4 l5 : Option Value) (st : List Value) (σ : sS), Rx E d 252 25 [l0, l1, l2, l3, l4, l5] st σ = Rx E d 252 26 [l0, l1, l2, l3, l4, l5] (.int (3) :: st) σ) ∧
  (∀ (E : sV) (d : Nat) (l0 l1 l2 l3 l4 l5 : Option Value) (v : Int32) (σ : sS), Rx E d 252 26 [l0, l1, l2, l3, l4, l5] [.int v] σ = some (.inl (some (.int v)), σ)) ∧
  (∀ (E : sV) (d : Nat) (l0 l1 l2 l3 l4 l5 : Option Value) (x : Nat) (st : List Value) (σ : sS), Rx E d 252 27 [l0, l1, l2, l3, l4, l5] (.ref x :: st) σ = Rx E d 252 29 [l0, l1, l2, l3, ldrop l4, some (.ref x)] st σ) ∧
  (∀ (E : sV) (d : Nat) (l0 l1 l2 l3 l4 l5 : Option Value) (st : List Value) (σ : sS), Rx E d 252 27 [l0, l1, l2, l3, l4, l5] (.null :: st) σ = Rx E d 252 29 [l0, l1, l2, l3, ldrop l4, some (.null)] st σ) ∧
  (∀ (E : sV) (d : Nat) (l0 l1 l2 l3 l4 l5 : Option Value) (st : List Value) (σ : sS), Rx E d 252 29 [l0, l1, l2, l3, l4, l5] st σ = Rx E d 252 30 [l0, l1, l2, l3, l4, l5] (.int (4) :: st) σ) ∧
  (∀ (E : sV) (d : Nat) (l0 l1 l2 l3 l4 l5 : Option Value) (v : Int32) (σ : sS), Rx E d 252 30 [l0, l1, l2, l3, l4, l5] [.int v] σ = some (.inl (some (.int v)), σ)) ∧
  (∀ (E : sV) (d : Nat) (l0 l1 l2 l3 l4 l5 : Option Value) (st : List Value) (σ : sS), Rx E d 252 31 [l0, l1, l2, l3, l4, l5] st σ = Rx E d 252 32 [l0, l1, l2, l3, l4, l5] (.int (0) :: st) σ) ∧
  (∀ (E : sV) (d : Nat) (l0 l1 l2 l3 l4 l5 : Option Value) (v : Int32) (σ : sS), Rx E d 252 32 [l0, l1, l2, l3, l4, l5] [.int v] σ = some (.inl (some (.int v)), σ)) := ⟨fun _ _ _ _ _ _ _ _ _ _ => Rx_of gMT_252 d252_0 rfl,
  fun _ _ _ _ _ _ _ _ _ => Rx_of gMT_252 d252_0 rfl,
  fun _ _ _ _ _ _ _ _ _ _ => Rx_of gMT_252 d252_2 rfl,
  fun _ _ _ _ _ _ _ _ _ _ => Rx_of gMT_252 d252_3 rfl,
  fun _ _ _ _ _ _ _ _ _ => Rx_of gMT_252 d252_3 rfl,
  fun _ _ _ _ _ _ _ _ _ _ => Rx_of gMT_252 d252_4 rfl,
  fun _ _ _ _ _ _ _ _ _ _ => Rx_of gMT_252 d252_5 rfl,
  fun _ _ _ _ _ _ _ _ _ _ => Rx_of gMT_252 d252_6 rfl,
  fun _ _ _ _ _ _ _ _ _ _ _ _ _ _ hc hb => Rx_callW gMT_252 d252_7 rfl rfl rfl rfl hc hb,
  fun _ _ _ _ _ _ _ _ _ _ _ => Rx_of gMT_252 d252_10 rfl,
  fun _ _ _ _ _ _ _ _ _ _ _ _ _ => Rx_ast gMT_252 d252_11 rfl rfl,
  fun _ _ _ _ _ _ _ _ _ _ => Rx_goto gMT_252 d252_12 rfl (by decide),
  fun _ _ _ _ _ _ _ _ _ _ _ => Rx_of gMT_252 d252_15 rfl,
  fun _ _ _ _ _ _ _ _ _ _ => Rx_of gMT_252 d252_15 rfl,
  fun _ _ _ _ _ _ _ _ _ _ => Rx_of gMT_252 d252_17 rfl,
  fun _ _ _ _ _ _ _ _ _ _ => Rx_iretI gMT_252 d252_18 rfl rfl,
  fun _ _ _ _ _ _ _ _ _ _ _ => Rx_of gMT_252 d252_19 rfl,
  fun _ _ _ _ _ _ _ _ _ _ => Rx_of gMT_252 d252_19 rfl,
  fun _ _ _ _ _ _ _ _ _ _ => Rx_of gMT_252 d252_21 rfl,
  fun _ _ _ _ _ _ _ _ _ _ => Rx_iretI gMT_252 d252_22 rfl rfl,
  fun _ _ _ _ _ _ _ _ _ _ _ => Rx_of gMT_252 d252_23 rfl,
  fun _ _ _ _ _ _ _ _ _ _ => Rx_of gMT_252 d252_23 rfl,
  fun _ _ _ _ _ _ _ _ _ _ => Rx_of gMT_252 d252_25 rfl,
  fun _ _ _ _ _ _ _ _ _ _ => Rx_iretI gMT_252 d252_26 rfl rfl,
  fun _ _ _ _ _ _ _ _ _ _ _ => Rx_of gMT_252 d252_27 rfl,
  fun _ _ _ _ _ _ _ _ _ _ => Rx_of gMT_252 d252_27 rfl,
  fun _ _ _ _ _ _ _ _ _ _ => Rx_of gMT_252 d252_29 rfl,
  fun _ _ _ _ _ _ _ _ _ _ => Rx_iretI gMT_252 d252_30 rfl rfl,
  fun _ _ _ _ _ _ _ _ _ _ => Rx_of gMT_252 d252_31 rfl,
  fun _ _ _ _ _ _ _ _ _ _ => Rx_iretI gMT_252 d252_32 rfl rfl⟩
-- QLaw_load: QLaw_load_0
theorem NLaw_load (E : sV) (d : Nat) (a0 : Nat) (a1 : Int32) (a2 : Int32) (a3 : Int32) (a4 : Nat) (σ : sS) : Mt E (d + 1) 252 [.ref a0, .int a1, .int a2, .int a3, .ref a4] σ = Rx E d 252 0 [some (.ref a0), some (.int a1), some (.int a2), some (.int a3), some (.ref a4), none] [] σ := Mt_succ gMT_252 (Nat.le_of_ble_eq_true rfl)
theorem QLaw_borrow_0 : (∀ (E : sV) (d : Nat) (l0 : Option Value) (l1 : Option Value) (l2 : Option Value) (l4 : Option Value) (x : Nat) (st : List Value) (σ : sS), Rx E d 253 0 [l0, l1, l2, some (.ref x), l4] st σ = Rx E d 253 1 [l0, l1, l2, some (.ref x), l4] (.ref x :: st) σ) ∧
  (∀ (E : sV) (d : Nat) (l0 : Option Value) (l1 : Option Value) (l2 : Option Value) (l4 : Option Value) (st : List Value) (σ : sS), Rx E d 253 0 [l0, l1, l2, some (.null), l4] st σ = Rx E d 253 1 [l0, l1, l2, some (.null), l4] (.null :: st) σ) ∧
  (∀ (E : sV) (d : Nat) (l0 l1 l2 l3 l4 : Option Value) (st : List Value) (σ : sS), Rx E d 253 1 [l0, l1, l2, l3, l4] st σ = Rx E d 253 2 [l0, l1, l2, l3, l4] (.int (0) :: st) σ) ∧
  (∀ (E : sV) (d : Nat) (l1 : Option Value) (l2 : Option Value) (l3 : Option Value) (l4 : Option Value) (x : Nat) (st : List Value) (σ : sS), Rx E d 253 2 [some (.ref x), l1, l2, l3, l4] st σ = Rx E d 253 3 [some (.ref x), l1, l2, l3, l4] (.ref x :: st) σ) ∧
  (∀ (E : sV) (d : Nat) (l1 : Option Value) (l2 : Option Value) (l3 : Option Value) (l4 : Option Value) (st : List Value) (σ : sS), Rx E d 253 2 [some (.null), l1, l2, l3, l4] st σ = Rx E d 253 3 [some (.null), l1, l2, l3, l4] (.null :: st) σ) ∧
  (∀ (E : sV) (d : Nat) (l0 : Option Value) (l2 : Option Value) (l3 : Option Value) (l4 : Option Value) (x : Int32) (st : List Value) (σ : sS), Rx E d 253 3 [l0, some (.int x), l2, l3, l4] st σ = Rx E d 253 4 [l0, some (.int x), l2, l3, l4] (.int x :: st) σ) ∧
  (∀ (E : sV) (d : Nat) (l0 : Option Value) (l1 : Option Value) (l3 : Option Value) (l4 : Option Value) (x : Int32) (st : List Value) (σ : sS), Rx E d 253 4 [l0, l1, some (.int x), l3, l4] st σ = Rx E d 253 5 [l0, l1, some (.int x), l3, l4] (.int x :: st) σ) ∧
  (∀ (E : sV) (d : Nat) (l0 l1 l2 l3 l4 : Option Value) (v1 v2 : Value) (b : Nat) (st : List Value) (σ : sS) (hc : cats st ≤ 8) (hb : isOb σ.1 b 7 = true), Rx E d 253 5 [l0, l1, l2, l3, l4] (v2 :: v1 :: .ref b :: st) σ = fin E d 253 (sRet gm253 5 [l0, l1, l2, l3, l4] st (Mt E d 84 [.ref b, v1, v2] σ))) ∧
  (∀ (E : sV) (d : Nat) (l0 l1 l2 l3 l4 : Option Value) (x : Int32) (st : List Value) (σ : sS), Rx E d 253 8 [l0, l1, l2, l3, l4] (.int x :: st) σ = Rx E d 253 9 [l0, l1, l2, l3, l4] (.long x.toInt64 :: st) σ) ∧
  (∀ (E : sV) (d : Nat) (l0 l1 l2 l3 l4 : Option Value) (x : Int64) (i : Int32) (a : Nat) (st : List Value) (σ : sS), Rx E d 253 9 [l0, l1, l2, l3, l4] (.long x :: .int i :: .ref a :: st) σ = if E.1 ≤ a then (astL σ.1 a i x).bind (fun h => Rx E d 253 10 [l0, l1, l2, l3, l4] st (h, σ.2)) else none) ∧
  (∀ (E : sV) (d : Nat) (l0 l1 l2 l3 l4 : Option Value) (st : List Value) (σ : sS), Rx E d 253 10 [l0, l1, l2, l3, l4] st σ = Rx E d 253 21 [l0, l1, l2, l3, l4] st σ) ∧
  (∀ (E : sV) (d : Nat) (l0 l1 l2 l3 l4 : Option Value) (x : Nat) (st : List Value) (σ : sS), Rx E d 253 13 [l0, l1, l2, l3, l4] (.ref x :: st) σ = Rx E d 253 15 [l0, l1, l2, ldrop l3, some (.ref x)] st σ) ∧
  (∀ (E : sV) (d : Nat) (l0 l1 l2 l3 l4 : Option Value) (st : List Value) (σ : sS), Rx E d 253 13 [l0, l1, l2, l3, l4] (.null :: st) σ = Rx E d 253 15 [l0, l1, l2, ldrop l3, some (.null)] st σ) ∧
  (∀ (E : sV) (d : Nat) (l0 l1 l2 l3 l4 : Option Value) (st : List Value) (σ : sS), Rx E d 253 15 [l0, l1, l2, l3, l4] st σ = Rx E d 253 16 [l0, l1, l2, l3, l4] (.int (1) :: st) σ) ∧
  (∀ (E : sV) (d : Nat) (l0 l1 l2 l3 l4 : Option Value) (v : Int32) (σ : sS), Rx E d 253 16 [l0, l1, l2, l3, l4] [.int v] σ = some (.inl (some (.int v)), σ)) ∧
  (∀ (E : sV) (d : Nat) (l0 l1 l2 l3 l4 : Option Value) (x : Nat) (st : List Value) (σ : sS), Rx E d 253 17 [l0, l1, l2, l3, l4] (.ref x :: st) σ = Rx E d 253 19 [l0, l1, l2, ldrop l3, some (.ref x)] st σ) ∧
  (∀ (E : sV) (d : Nat) (l0 l1 l2 l3 l4 : Option Value) (st : List Value) (σ : sS), Rx E d 253 17 [l0, l1, l2, l3, l4] (.null :: st) σ = Rx E d 253 19 [l0, l1, l2, ldrop l3, some (.null)] st σ) ∧
  (∀ (E : sV) (d : Nat) (l0 l1 l2 l3 l4 : Option Value) (st : List Value) (σ : sS), Rx E d 253 19 [l0, l1, l2, l3, l4] st σ = Rx E d 253 20 [l0, l1, l2, l3, l4] (.int (2) :: st) σ) ∧
  (∀ (E : sV) (d : Nat) (l0 l1 l2 l3 l4 : Option Value) (v : Int32) (σ : sS), Rx E d 253 20 [l0, l1, l2, l3, l4] [.int v] σ = some (.inl (some (.int v)), σ)) ∧
  (∀ (E : sV) (d : Nat) (l0 l1 l2 l3 l4 : Option Value) (st : List Value) (σ : sS), Rx E d 253 21 [l0, l1, l2, l3, l4] st σ = Rx E d 253 22 [l0, l1, l2, l3, l4] (.int (0) :: st) σ) ∧
  (∀ (E : sV) (d : Nat) (l0 l1 l2 l3 l4 : Option Value) (v : Int32) (σ : sS), Rx E d 253 22 [l0, l1, l2, l3, l4] [.int v] σ = some (.inl (some (.int v)), σ)) := ⟨fun _ _ _ _ _ _ _ _ _ => Rx_of gMT_253 d253_0 rfl,
  fun _ _ _ _ _ _ _ _ => Rx_of gMT_253 d253_0 rfl,
  fun _ _ _ _ _ _ _ _ _ => Rx_of gMT_253 d253_1 rfl,
  fun _ _ _ _ _ _ _ _ _ => Rx_of gMT_253 d253_2 rfl,
  fun _ _ _ _ _ _ _ _ => Rx_of gMT_253 d253_2 rfl,
  fun _ _ _ _ _ _ _ _ _ => Rx_of gMT_253 d253_3 rfl,
  fun _ _ _ _ _ _ _ _ _ => Rx_of gMT_253 d253_4 rfl,
  fun _ _ _ _ _ _ _ _ _ _ _ _ hc hb => Rx_callW gMT_253 d253_5 rfl rfl rfl rfl hc hb,
  fun _ _ _ _ _ _ _ _ _ _ => Rx_of gMT_253 d253_8 rfl,
  fun _ _ _ _ _ _ _ _ _ _ _ _ => Rx_ast gMT_253 d253_9 rfl rfl,
  fun _ _ _ _ _ _ _ _ _ => Rx_goto gMT_253 d253_10 rfl (by decide),
  fun _ _ _ _ _ _ _ _ _ _ => Rx_of gMT_253 d253_13 rfl,
  fun _ _ _ _ _ _ _ _ _ => Rx_of gMT_253 d253_13 rfl,
  fun _ _ _ _ _ _ _ _ _ => Rx_of gMT_253 d253_15 rfl,
  fun _ _ _ _ _ _ _ _ _ => Rx_iretI gMT_253 d253_16 rfl rfl,
  fun _ _ _ _ _ _ _ _ _ _ => Rx_of gMT_253 d253_17 rfl,
  fun _ _ _ _ _ _ _ _ _ => Rx_of gMT_253 d253_17 rfl,
  fun _ _ _ _ _ _ _ _ _ => Rx_of gMT_253 d253_19 rfl,
  fun _ _ _ _ _ _ _ _ _ => Rx_iretI gMT_253 d253_20 rfl rfl,
  fun _ _ _ _ _ _ _ _ _ => Rx_of gMT_253 d253_21 rfl,
  fun _ _ _ _ _ _ _ _ _ => Rx_iretI gMT_253 d253_22 rfl rfl⟩
-- QLaw_borrow: QLaw_borrow_0
theorem NLaw_borrow (E : sV) (d : Nat) (a0 : Nat) (a1 : Int32) (a2 : Int32) (a3 : Nat) (σ : sS) : Mt E (d + 1) 253 [.ref a0, .int a1, .int a2, .ref a3] σ = Rx E d 253 0 [some (.ref a0), some (.int a1), some (.int a2), some (.ref a3), none] [] σ := Mt_succ gMT_253 (Nat.le_of_ble_eq_true rfl)
theorem QLaw_giveBack_0 : (∀ (E : sV) (d : Nat) (l0 : Option Value) (l1 : Option Value) (l2 : Option Value) (l4 : Option Value) (x : Nat) (st : List Value) (σ : sS), Rx E d 254 0 [l0, l1, l2, some (.ref x), l4] st σ = Rx E d 254 1 [l0, l1, l2, some (.ref x), l4] (.ref x :: st) σ) ∧
  (∀ (E : sV) (d : Nat) (l0 : Option Value) (l1 : Option Value) (l2 : Option Value) (l4 : Option Value) (st : List Value) (σ : sS), Rx E d 254 0 [l0, l1, l2, some (.null), l4] st σ = Rx E d 254 1 [l0, l1, l2, some (.null), l4] (.null :: st) σ) ∧
  (∀ (E : sV) (d : Nat) (l0 l1 l2 l3 l4 : Option Value) (st : List Value) (σ : sS), Rx E d 254 1 [l0, l1, l2, l3, l4] st σ = Rx E d 254 2 [l0, l1, l2, l3, l4] (.int (0) :: st) σ) ∧
  (∀ (E : sV) (d : Nat) (l1 : Option Value) (l2 : Option Value) (l3 : Option Value) (l4 : Option Value) (x : Nat) (st : List Value) (σ : sS), Rx E d 254 2 [some (.ref x), l1, l2, l3, l4] st σ = Rx E d 254 3 [some (.ref x), l1, l2, l3, l4] (.ref x :: st) σ) ∧
  (∀ (E : sV) (d : Nat) (l1 : Option Value) (l2 : Option Value) (l3 : Option Value) (l4 : Option Value) (st : List Value) (σ : sS), Rx E d 254 2 [some (.null), l1, l2, l3, l4] st σ = Rx E d 254 3 [some (.null), l1, l2, l3, l4] (.null :: st) σ) ∧
  (∀ (E : sV) (d : Nat) (l0 : Option Value) (l2 : Option Value) (l3 : Option Value) (l4 : Option Value) (x : Int32) (st : List Value) (σ : sS), Rx E d 254 3 [l0, some (.int x), l2, l3, l4] st σ = Rx E d 254 4 [l0, some (.int x), l2, l3, l4] (.int x :: st) σ) ∧
  (∀ (E : sV) (d : Nat) (l0 : Option Value) (l1 : Option Value) (l3 : Option Value) (l4 : Option Value) (x : Int32) (st : List Value) (σ : sS), Rx E d 254 4 [l0, l1, some (.int x), l3, l4] st σ = Rx E d 254 5 [l0, l1, some (.int x), l3, l4] (.int x :: st) σ) ∧
  (∀ (E : sV) (d : Nat) (l0 l1 l2 l3 l4 : Option Value) (v1 v2 : Value) (b : Nat) (st : List Value) (σ : sS) (hc : cats st ≤ 8) (hb : isOb σ.1 b 7 = true), Rx E d 254 5 [l0, l1, l2, l3, l4] (v2 :: v1 :: .ref b :: st) σ = fin E d 254 (sRet gm254 5 [l0, l1, l2, l3, l4] st (Mt E d 85 [.ref b, v1, v2] σ))) ∧
  (∀ (E : sV) (d : Nat) (l0 l1 l2 l3 l4 : Option Value) (x : Int32) (st : List Value) (σ : sS), Rx E d 254 8 [l0, l1, l2, l3, l4] (.int x :: st) σ = Rx E d 254 9 [l0, l1, l2, l3, l4] (.long x.toInt64 :: st) σ) ∧
  (∀ (E : sV) (d : Nat) (l0 l1 l2 l3 l4 : Option Value) (x : Int64) (i : Int32) (a : Nat) (st : List Value) (σ : sS), Rx E d 254 9 [l0, l1, l2, l3, l4] (.long x :: .int i :: .ref a :: st) σ = if E.1 ≤ a then (astL σ.1 a i x).bind (fun h => Rx E d 254 10 [l0, l1, l2, l3, l4] st (h, σ.2)) else none) ∧
  (∀ (E : sV) (d : Nat) (l0 l1 l2 l3 l4 : Option Value) (st : List Value) (σ : sS), Rx E d 254 10 [l0, l1, l2, l3, l4] st σ = Rx E d 254 21 [l0, l1, l2, l3, l4] st σ) ∧
  (∀ (E : sV) (d : Nat) (l0 l1 l2 l3 l4 : Option Value) (x : Nat) (st : List Value) (σ : sS), Rx E d 254 13 [l0, l1, l2, l3, l4] (.ref x :: st) σ = Rx E d 254 15 [l0, l1, l2, ldrop l3, some (.ref x)] st σ) ∧
  (∀ (E : sV) (d : Nat) (l0 l1 l2 l3 l4 : Option Value) (st : List Value) (σ : sS), Rx E d 254 13 [l0, l1, l2, l3, l4] (.null :: st) σ = Rx E d 254 15 [l0, l1, l2, ldrop l3, some (.null)] st σ) ∧
  (∀ (E : sV) (d : Nat) (l0 l1 l2 l3 l4 : Option Value) (st : List Value) (σ : sS), Rx E d 254 15 [l0, l1, l2, l3, l4] st σ = Rx E d 254 16 [l0, l1, l2, l3, l4] (.int (1) :: st) σ) ∧
  (∀ (E : sV) (d : Nat) (l0 l1 l2 l3 l4 : Option Value) (v : Int32) (σ : sS), Rx E d 254 16 [l0, l1, l2, l3, l4] [.int v] σ = some (.inl (some (.int v)), σ)) ∧
  (∀ (E : sV) (d : Nat) (l0 l1 l2 l3 l4 : Option Value) (x : Nat) (st : List Value) (σ : sS), Rx E d 254 17 [l0, l1, l2, l3, l4] (.ref x :: st) σ = Rx E d 254 19 [l0, l1, l2, ldrop l3, some (.ref x)] st σ) ∧
  (∀ (E : sV) (d : Nat) (l0 l1 l2 l3 l4 : Option Value) (st : List Value) (σ : sS), Rx E d 254 17 [l0, l1, l2, l3, l4] (.null :: st) σ = Rx E d 254 19 [l0, l1, l2, ldrop l3, some (.null)] st σ) ∧
  (∀ (E : sV) (d : Nat) (l0 l1 l2 l3 l4 : Option Value) (st : List Value) (σ : sS), Rx E d 254 19 [l0, l1, l2, l3, l4] st σ = Rx E d 254 20 [l0, l1, l2, l3, l4] (.int (2) :: st) σ) ∧
  (∀ (E : sV) (d : Nat) (l0 l1 l2 l3 l4 : Option Value) (v : Int32) (σ : sS), Rx E d 254 20 [l0, l1, l2, l3, l4] [.int v] σ = some (.inl (some (.int v)), σ)) ∧
  (∀ (E : sV) (d : Nat) (l0 l1 l2 l3 l4 : Option Value) (st : List Value) (σ : sS), Rx E d 254 21 [l0, l1, l2, l3, l4] st σ = Rx E d 254 22 [l0, l1, l2, l3, l4] (.int (0) :: st) σ) ∧
  (∀ (E : sV) (d : Nat) (l0 l1 l2 l3 l4 : Option Value) (v : Int32) (σ : sS), Rx E d 254 22 [l0, l1, l2, l3, l4] [.int v] σ = some (.inl (some (.int v)), σ)) := ⟨fun _ _ _ _ _ _ _ _ _ => Rx_of gMT_254 d254_0 rfl,
  fun _ _ _ _ _ _ _ _ => Rx_of gMT_254 d254_0 rfl,
  fun _ _ _ _ _ _ _ _ _ => Rx_of gMT_254 d254_1 rfl,
  fun _ _ _ _ _ _ _ _ _ => Rx_of gMT_254 d254_2 rfl,
  fun _ _ _ _ _ _ _ _ => Rx_of gMT_254 d254_2 rfl,
  fun _ _ _ _ _ _ _ _ _ => Rx_of gMT_254 d254_3 rfl,
  fun _ _ _ _ _ _ _ _ _ => Rx_of gMT_254 d254_4 rfl,
  fun _ _ _ _ _ _ _ _ _ _ _ _ hc hb => Rx_callW gMT_254 d254_5 rfl rfl rfl rfl hc hb,
  fun _ _ _ _ _ _ _ _ _ _ => Rx_of gMT_254 d254_8 rfl,
  fun _ _ _ _ _ _ _ _ _ _ _ _ => Rx_ast gMT_254 d254_9 rfl rfl,
  fun _ _ _ _ _ _ _ _ _ => Rx_goto gMT_254 d254_10 rfl (by decide),
  fun _ _ _ _ _ _ _ _ _ _ => Rx_of gMT_254 d254_13 rfl,
  fun _ _ _ _ _ _ _ _ _ => Rx_of gMT_254 d254_13 rfl,
  fun _ _ _ _ _ _ _ _ _ => Rx_of gMT_254 d254_15 rfl,
  fun _ _ _ _ _ _ _ _ _ => Rx_iretI gMT_254 d254_16 rfl rfl,
  fun _ _ _ _ _ _ _ _ _ _ => Rx_of gMT_254 d254_17 rfl,
  fun _ _ _ _ _ _ _ _ _ => Rx_of gMT_254 d254_17 rfl,
  fun _ _ _ _ _ _ _ _ _ => Rx_of gMT_254 d254_19 rfl,
  fun _ _ _ _ _ _ _ _ _ => Rx_iretI gMT_254 d254_20 rfl rfl,
  fun _ _ _ _ _ _ _ _ _ => Rx_of gMT_254 d254_21 rfl,
  fun _ _ _ _ _ _ _ _ _ => Rx_iretI gMT_254 d254_22 rfl rfl⟩
-- QLaw_giveBack: QLaw_giveBack_0
theorem NLaw_giveBack (E : sV) (d : Nat) (a0 : Nat) (a1 : Int32) (a2 : Int32) (a3 : Nat) (σ : sS) : Mt E (d + 1) 254 [.ref a0, .int a1, .int a2, .ref a3] σ = Rx E d 254 0 [some (.ref a0), some (.int a1), some (.int a2), some (.ref a3), none] [] σ := Mt_succ gMT_254 (Nat.le_of_ble_eq_true rfl)
theorem QLaw_repair_0 : (∀ (E : sV) (d : Nat) (l0 : Option Value) (l1 : Option Value) (l2 : Option Value) (l4 : Option Value) (x : Nat) (st : List Value) (σ : sS), Rx E d 255 0 [l0, l1, l2, some (.ref x), l4] st σ = Rx E d 255 1 [l0, l1, l2, some (.ref x), l4] (.ref x :: st) σ) ∧
  (∀ (E : sV) (d : Nat) (l0 : Option Value) (l1 : Option Value) (l2 : Option Value) (l4 : Option Value) (st : List Value) (σ : sS), Rx E d 255 0 [l0, l1, l2, some (.null), l4] st σ = Rx E d 255 1 [l0, l1, l2, some (.null), l4] (.null :: st) σ) ∧
  (∀ (E : sV) (d : Nat) (l0 l1 l2 l3 l4 : Option Value) (st : List Value) (σ : sS), Rx E d 255 1 [l0, l1, l2, l3, l4] st σ = Rx E d 255 2 [l0, l1, l2, l3, l4] (.int (0) :: st) σ) ∧
  (∀ (E : sV) (d : Nat) (l1 : Option Value) (l2 : Option Value) (l3 : Option Value) (l4 : Option Value) (x : Nat) (st : List Value) (σ : sS), Rx E d 255 2 [some (.ref x), l1, l2, l3, l4] st σ = Rx E d 255 3 [some (.ref x), l1, l2, l3, l4] (.ref x :: st) σ) ∧
  (∀ (E : sV) (d : Nat) (l1 : Option Value) (l2 : Option Value) (l3 : Option Value) (l4 : Option Value) (st : List Value) (σ : sS), Rx E d 255 2 [some (.null), l1, l2, l3, l4] st σ = Rx E d 255 3 [some (.null), l1, l2, l3, l4] (.null :: st) σ) ∧
  (∀ (E : sV) (d : Nat) (l0 : Option Value) (l2 : Option Value) (l3 : Option Value) (l4 : Option Value) (x : Int32) (st : List Value) (σ : sS), Rx E d 255 3 [l0, some (.int x), l2, l3, l4] st σ = Rx E d 255 4 [l0, some (.int x), l2, l3, l4] (.int x :: st) σ) ∧
  (∀ (E : sV) (d : Nat) (l0 : Option Value) (l1 : Option Value) (l3 : Option Value) (l4 : Option Value) (x : Int32) (st : List Value) (σ : sS), Rx E d 255 4 [l0, l1, some (.int x), l3, l4] st σ = Rx E d 255 5 [l0, l1, some (.int x), l3, l4] (.int x :: st) σ) ∧
  (∀ (E : sV) (d : Nat) (l0 l1 l2 l3 l4 : Option Value) (v1 v2 : Value) (b : Nat) (st : List Value) (σ : sS) (hc : cats st ≤ 8) (hb : isOb σ.1 b 7 = true), Rx E d 255 5 [l0, l1, l2, l3, l4] (v2 :: v1 :: .ref b :: st) σ = fin E d 255 (sRet gm255 5 [l0, l1, l2, l3, l4] st (Mt E d 86 [.ref b, v1, v2] σ))) ∧
  (∀ (E : sV) (d : Nat) (l0 l1 l2 l3 l4 : Option Value) (x : Int32) (st : List Value) (σ : sS), Rx E d 255 8 [l0, l1, l2, l3, l4] (.int x :: st) σ = Rx E d 255 9 [l0, l1, l2, l3, l4] (.long x.toInt64 :: st) σ) ∧
  (∀ (E : sV) (d : Nat) (l0 l1 l2 l3 l4 : Option Value) (x : Int64) (i : Int32) (a : Nat) (st : List Value) (σ : sS), Rx E d 255 9 [l0, l1, l2, l3, l4] (.long x :: .int i :: .ref a :: st) σ = if E.1 ≤ a then (astL σ.1 a i x).bind (fun h => Rx E d 255 10 [l0, l1, l2, l3, l4] st (h, σ.2)) else none) ∧
  (∀ (E : sV) (d : Nat) (l0 l1 l2 l3 l4 : Option Value) (st : List Value) (σ : sS), Rx E d 255 10 [l0, l1, l2, l3, l4] st σ = Rx E d 255 29 [l0, l1, l2, l3, l4] st σ) ∧
  (∀ (E : sV) (d : Nat) (l0 l1 l2 l3 l4 : Option Value) (x : Nat) (st : List Value) (σ : sS), Rx E d 255 13 [l0, l1, l2, l3, l4] (.ref x :: st) σ = Rx E d 255 15 [l0, l1, l2, ldrop l3, some (.ref x)] st σ) ∧
  (∀ (E : sV) (d : Nat) (l0 l1 l2 l3 l4 : Option Value) (st : List Value) (σ : sS), Rx E d 255 13 [l0, l1, l2, l3, l4] (.null :: st) σ = Rx E d 255 15 [l0, l1, l2, ldrop l3, some (.null)] st σ) ∧
  (∀ (E : sV) (d : Nat) (l0 l1 l2 l3 l4 : Option Value) (st : List Value) (σ : sS), Rx E d 255 15 [l0, l1, l2, l3, l4] st σ = Rx E d 255 16 [l0, l1, l2, l3, l4] (.int (1) :: st) σ) ∧
  (∀ (E : sV) (d : Nat) (l0 l1 l2 l3 l4 : Option Value) (v : Int32) (σ : sS), Rx E d 255 16 [l0, l1, l2, l3, l4] [.int v] σ = some (.inl (some (.int v)), σ)) ∧
  (∀ (E : sV) (d : Nat) (l0 l1 l2 l3 l4 : Option Value) (x : Nat) (st : List Value) (σ : sS), Rx E d 255 17 [l0, l1, l2, l3, l4] (.ref x :: st) σ = Rx E d 255 19 [l0, l1, l2, ldrop l3, some (.ref x)] st σ) ∧
  (∀ (E : sV) (d : Nat) (l0 l1 l2 l3 l4 : Option Value) (st : List Value) (σ : sS), Rx E d 255 17 [l0, l1, l2, l3, l4] (.null :: st) σ = Rx E d 255 19 [l0, l1, l2, ldrop l3, some (.null)] st σ) ∧
  (∀ (E : sV) (d : Nat) (l0 l1 l2 l3 l4 : Option Value) (st : List Value) (σ : sS), Rx E d 255 19 [l0, l1, l2, l3, l4] st σ = Rx E d 255 20 [l0, l1, l2, l3, l4] (.int (2) :: st) σ) ∧
  (∀ (E : sV) (d : Nat) (l0 l1 l2 l3 l4 : Option Value) (v : Int32) (σ : sS), Rx E d 255 20 [l0, l1, l2, l3, l4] [.int v] σ = some (.inl (some (.int v)), σ)) ∧
  (∀ (E : sV) (d : Nat) (l0 l1 l2 l3 l4 : Option Value) (x : Nat) (st : List Value) (σ : sS), Rx E d 255 21 [l0, l1, l2, l3, l4] (.ref x :: st) σ = Rx E d 255 23 [l0, l1, l2, ldrop l3, some (.ref x)] st σ) ∧
  (∀ (E : sV) (d : Nat) (l0 l1 l2 l3 l4 : Option Value) (st : List Value) (σ : sS), Rx E d 255 21 [l0, l1, l2, l3, l4] (.null :: st) σ = Rx E d 255 23 [l0, l1, l2, ldrop l3, some (.null)] st σ) ∧
  (∀ (E : sV) (d : Nat) (l0 l1 l2 l3 l4 : Option Value) (st : List Value) (σ : sS), Rx E d 255 23 [l0, l1, l2, l3, l4] st σ = Rx E d 255 24 [l0, l1, l2, l3, l4] (.int (3) :: st) σ) ∧
  (∀ (E : sV) (d : Nat) (l0 l1 l2 l3 l4 : Option Value) (v : Int32) (σ : sS), Rx E d 255 24 [l0, l1, l2, l3, l4] [.int v] σ = some (.inl (some (.int v)), σ)) ∧
  (∀ (E : sV) (d : Nat) (l0 l1 l2 l3 l4 : Option Value) (x : Nat) (st : List Value) (σ : sS), Rx E d 255 25 [l0, l1, l2, l3, l4] (.ref x :: st) σ = Rx E d 255 27 [l0, l1, l2, ldrop l3, some (.ref x)] st σ) ∧
  (∀ (E : sV) (d : Nat) (l0 l1 l2 l3 l4 : Option Value) (st : List Value) (σ : sS), Rx E d 255 25 [l0, l1, l2, l3, l4] (.null :: st) σ = Rx E d 255 27 [l0, l1, l2, ldrop l3, some (.null)] st σ) ∧
  (∀ (E : sV) (d : Nat) (l0 l1 l2 l3 l4 : Option Value) (st : List Value) (σ : sS), Rx E d 255 27 [l0, l1, l2, l3, l4] st σ = Rx E d 255 28 [l0, l1, l2, l3, l4] (.int (4) :: st) σ) ∧
  (∀ (E : sV) (d : Nat) (l0 l1 l2 l3 l4 : Option Value) (v : Int32) (σ : sS), Rx E d 255 28 [l0, l1, l2, l3, l4] [.int v] σ = some (.inl (some (.int v)), σ)) ∧
  (∀ (E : sV) (d : Nat) (l0 l1 l2 l3 l4 : Option Value) (st : List Value) (σ : sS), Rx E d 255 29 [l0, l1, l2, l3, l4] st σ = Rx E d 255 30 [l0, l1, l2, l3, l4] (.int (0) :: st) σ) ∧
  (∀ (E : sV) (d : Nat) (l0 l1 l2 l3 l4 : Option Value) (v : Int32) (σ : sS), Rx E d 255 30 [l0, l1, l2, l3, l4] [.int v] σ = some (.inl (some (.int v)), σ)) := ⟨fun _ _ _ _ _ _ _ _ _ => Rx_of gMT_255 d255_0 rfl,
  fun _ _ _ _ _ _ _ _ => Rx_of gMT_255 d255_0 rfl,
  fun _ _ _ _ _ _ _ _ _ => Rx_of gMT_255 d255_1 rfl,
  fun _ _ _ _ _ _ _ _ _ => Rx_of gMT_255 d255_2 rfl,
  fun _ _ _ _ _ _ _ _ => Rx_of gMT_255 d255_2 rfl,
  fun _ _ _ _ _ _ _ _ _ => Rx_of gMT_255 d255_3 rfl,
  fun _ _ _ _ _ _ _ _ _ => Rx_of gMT_255 d255_4 rfl,
  fun _ _ _ _ _ _ _ _ _ _ _ _ hc hb => Rx_callW gMT_255 d255_5 rfl rfl rfl rfl hc hb,
  fun _ _ _ _ _ _ _ _ _ _ => Rx_of gMT_255 d255_8 rfl,
  fun _ _ _ _ _ _ _ _ _ _ _ _ => Rx_ast gMT_255 d255_9 rfl rfl,
  fun _ _ _ _ _ _ _ _ _ => Rx_goto gMT_255 d255_10 rfl (by decide),
  fun _ _ _ _ _ _ _ _ _ _ => Rx_of gMT_255 d255_13 rfl,
  fun _ _ _ _ _ _ _ _ _ => Rx_of gMT_255 d255_13 rfl,
  fun _ _ _ _ _ _ _ _ _ => Rx_of gMT_255 d255_15 rfl,
  fun _ _ _ _ _ _ _ _ _ => Rx_iretI gMT_255 d255_16 rfl rfl,
  fun _ _ _ _ _ _ _ _ _ _ => Rx_of gMT_255 d255_17 rfl,
  fun _ _ _ _ _ _ _ _ _ => Rx_of gMT_255 d255_17 rfl,
  fun _ _ _ _ _ _ _ _ _ => Rx_of gMT_255 d255_19 rfl,
  fun _ _ _ _ _ _ _ _ _ => Rx_iretI gMT_255 d255_20 rfl rfl,
  fun _ _ _ _ _ _ _ _ _ _ => Rx_of gMT_255 d255_21 rfl,
  fun _ _ _ _ _ _ _ _ _ => Rx_of gMT_255 d255_21 rfl,
  fun _ _ _ _ _ _ _ _ _ => Rx_of gMT_255 d255_23 rfl,
  fun _ _ _ _ _ _ _ _ _ => Rx_iretI gMT_255 d255_24 rfl rfl,
  fun _ _ _ _ _ _ _ _ _ _ => Rx_of gMT_255 d255_25 rfl,
  fun _ _ _ _ _ _ _ _ _ => Rx_of gMT_255 d255_25 rfl,
  fun _ _ _ _ _ _ _ _ _ => Rx_of gMT_255 d255_27 rfl,
  fun _ _ _ _ _ _ _ _ _ => Rx_iretI gMT_255 d255_28 rfl rfl,
  fun _ _ _ _ _ _ _ _ _ => Rx_of gMT_255 d255_29 rfl,
  fun _ _ _ _ _ _ _ _ _ => Rx_iretI gMT_255 d255_30 rfl rfl⟩
-- QLaw_repair: QLaw_repair_0
theorem NLaw_repair (E : sV) (d : Nat) (a0 : Nat) (a1 : Int32) (a2 : Int32) (a3 : Nat) (σ : sS) : Mt E (d + 1) 255 [.ref a0, .int a1, .int a2, .ref a3] σ = Rx E d 255 0 [some (.ref a0), some (.int a1), some (.int a2), some (.ref a3), none] [] σ := Mt_succ gMT_255 (Nat.le_of_ble_eq_true rfl)
theorem QLaw_goHome_0 : (∀ (E : sV) (d : Nat) (l0 : Option Value) (l1 : Option Value) (l3 : Option Value) (x : Nat) (st : List Value) (σ : sS), Rx E d 256 0 [l0, l1, some (.ref x), l3] st σ = Rx E d 256 1 [l0, l1, some (.ref x), l3] (.ref x :: st) σ) ∧
  (∀ (E : sV) (d : Nat) (l0 : Option Value) (l1 : Option Value) (l3 : Option Value) (st : List Value) (σ : sS), Rx E d 256 0 [l0, l1, some (.null), l3] st σ = Rx E d 256 1 [l0, l1, some (.null), l3] (.null :: st) σ) ∧
  (∀ (E : sV) (d : Nat) (l0 l1 l2 l3 : Option Value) (st : List Value) (σ : sS), Rx E d 256 1 [l0, l1, l2, l3] st σ = Rx E d 256 2 [l0, l1, l2, l3] (.int (0) :: st) σ) ∧
  (∀ (E : sV) (d : Nat) (l1 : Option Value) (l2 : Option Value) (l3 : Option Value) (x : Nat) (st : List Value) (σ : sS), Rx E d 256 2 [some (.ref x), l1, l2, l3] st σ = Rx E d 256 3 [some (.ref x), l1, l2, l3] (.ref x :: st) σ) ∧
  (∀ (E : sV) (d : Nat) (l1 : Option Value) (l2 : Option Value) (l3 : Option Value) (st : List Value) (σ : sS), Rx E d 256 2 [some (.null), l1, l2, l3] st σ = Rx E d 256 3 [some (.null), l1, l2, l3] (.null :: st) σ) ∧
  (∀ (E : sV) (d : Nat) (l0 : Option Value) (l2 : Option Value) (l3 : Option Value) (x : Int32) (st : List Value) (σ : sS), Rx E d 256 3 [l0, some (.int x), l2, l3] st σ = Rx E d 256 4 [l0, some (.int x), l2, l3] (.int x :: st) σ) ∧
  (∀ (E : sV) (d : Nat) (l0 l1 l2 l3 : Option Value) (v1 : Value) (b : Nat) (st : List Value) (σ : sS) (hc : cats st ≤ 8) (hb : isOb σ.1 b 7 = true), Rx E d 256 4 [l0, l1, l2, l3] (v1 :: .ref b :: st) σ = fin E d 256 (sRet gm256 4 [l0, l1, l2, l3] st (Mt E d 87 [.ref b, v1] σ))) ∧
  (∀ (E : sV) (d : Nat) (l0 l1 l2 l3 : Option Value) (x : Int32) (st : List Value) (σ : sS), Rx E d 256 7 [l0, l1, l2, l3] (.int x :: st) σ = Rx E d 256 8 [l0, l1, l2, l3] (.long x.toInt64 :: st) σ) ∧
  (∀ (E : sV) (d : Nat) (l0 l1 l2 l3 : Option Value) (x : Int64) (i : Int32) (a : Nat) (st : List Value) (σ : sS), Rx E d 256 8 [l0, l1, l2, l3] (.long x :: .int i :: .ref a :: st) σ = if E.1 ≤ a then (astL σ.1 a i x).bind (fun h => Rx E d 256 9 [l0, l1, l2, l3] st (h, σ.2)) else none) ∧
  (∀ (E : sV) (d : Nat) (l0 l1 l2 l3 : Option Value) (st : List Value) (σ : sS), Rx E d 256 9 [l0, l1, l2, l3] st σ = Rx E d 256 15 [l0, l1, l2, l3] st σ) ∧
  (∀ (E : sV) (d : Nat) (l0 l1 l2 l3 : Option Value) (x : Nat) (st : List Value) (σ : sS), Rx E d 256 12 [l0, l1, l2, l3] (.ref x :: st) σ = Rx E d 256 13 [l0, l1, ldrop l2, some (.ref x)] st σ) ∧
  (∀ (E : sV) (d : Nat) (l0 l1 l2 l3 : Option Value) (st : List Value) (σ : sS), Rx E d 256 12 [l0, l1, l2, l3] (.null :: st) σ = Rx E d 256 13 [l0, l1, ldrop l2, some (.null)] st σ) ∧
  (∀ (E : sV) (d : Nat) (l0 l1 l2 l3 : Option Value) (st : List Value) (σ : sS), Rx E d 256 13 [l0, l1, l2, l3] st σ = Rx E d 256 14 [l0, l1, l2, l3] (.int (1) :: st) σ) ∧
  (∀ (E : sV) (d : Nat) (l0 l1 l2 l3 : Option Value) (v : Int32) (σ : sS), Rx E d 256 14 [l0, l1, l2, l3] [.int v] σ = some (.inl (some (.int v)), σ)) ∧
  (∀ (E : sV) (d : Nat) (l0 l1 l2 l3 : Option Value) (st : List Value) (σ : sS), Rx E d 256 15 [l0, l1, l2, l3] st σ = Rx E d 256 16 [l0, l1, l2, l3] (.int (0) :: st) σ) ∧
  (∀ (E : sV) (d : Nat) (l0 l1 l2 l3 : Option Value) (v : Int32) (σ : sS), Rx E d 256 16 [l0, l1, l2, l3] [.int v] σ = some (.inl (some (.int v)), σ)) := ⟨fun _ _ _ _ _ _ _ _ => Rx_of gMT_256 d256_0 rfl,
  fun _ _ _ _ _ _ _ => Rx_of gMT_256 d256_0 rfl,
  fun _ _ _ _ _ _ _ _ => Rx_of gMT_256 d256_1 rfl,
  fun _ _ _ _ _ _ _ _ => Rx_of gMT_256 d256_2 rfl,
  fun _ _ _ _ _ _ _ => Rx_of gMT_256 d256_2 rfl,
  fun _ _ _ _ _ _ _ _ => Rx_of gMT_256 d256_3 rfl,
  fun _ _ _ _ _ _ _ _ _ _ hc hb => Rx_callW gMT_256 d256_4 rfl rfl rfl rfl hc hb,
  fun _ _ _ _ _ _ _ _ _ => Rx_of gMT_256 d256_7 rfl,
  fun _ _ _ _ _ _ _ _ _ _ _ => Rx_ast gMT_256 d256_8 rfl rfl,
  fun _ _ _ _ _ _ _ _ => Rx_goto gMT_256 d256_9 rfl (by decide),
  fun _ _ _ _ _ _ _ _ _ => Rx_of gMT_256 d256_12 rfl,
  fun _ _ _ _ _ _ _ _ => Rx_of gMT_256 d256_12 rfl,
  fun _ _ _ _ _ _ _ _ => Rx_of gMT_256 d256_13 rfl,
  fun _ _ _ _ _ _ _ _ => Rx_iretI gMT_256 d256_14 rfl rfl,
  fun _ _ _ _ _ _ _ _ => Rx_of gMT_256 d256_15 rfl,
  fun _ _ _ _ _ _ _ _ => Rx_iretI gMT_256 d256_16 rfl rfl⟩
-- QLaw_goHome: QLaw_goHome_0
theorem NLaw_goHome (E : sV) (d : Nat) (a0 : Nat) (a1 : Int32) (a2 : Nat) (σ : sS) : Mt E (d + 1) 256 [.ref a0, .int a1, .ref a2] σ = Rx E d 256 0 [some (.ref a0), some (.int a1), some (.ref a2), none] [] σ := Mt_succ gMT_256 (Nat.le_of_ble_eq_true rfl)
theorem QLaw_rest_0 : (∀ (E : sV) (d : Nat) (l0 : Option Value) (l1 : Option Value) (l2 : Option Value) (l4 : Option Value) (x : Nat) (st : List Value) (σ : sS), Rx E d 257 0 [l0, l1, l2, some (.ref x), l4] st σ = Rx E d 257 1 [l0, l1, l2, some (.ref x), l4] (.ref x :: st) σ) ∧
  (∀ (E : sV) (d : Nat) (l0 : Option Value) (l1 : Option Value) (l2 : Option Value) (l4 : Option Value) (st : List Value) (σ : sS), Rx E d 257 0 [l0, l1, l2, some (.null), l4] st σ = Rx E d 257 1 [l0, l1, l2, some (.null), l4] (.null :: st) σ) ∧
  (∀ (E : sV) (d : Nat) (l0 l1 l2 l3 l4 : Option Value) (st : List Value) (σ : sS), Rx E d 257 1 [l0, l1, l2, l3, l4] st σ = Rx E d 257 2 [l0, l1, l2, l3, l4] (.int (0) :: st) σ) ∧
  (∀ (E : sV) (d : Nat) (l1 : Option Value) (l2 : Option Value) (l3 : Option Value) (l4 : Option Value) (x : Nat) (st : List Value) (σ : sS), Rx E d 257 2 [some (.ref x), l1, l2, l3, l4] st σ = Rx E d 257 3 [some (.ref x), l1, l2, l3, l4] (.ref x :: st) σ) ∧
  (∀ (E : sV) (d : Nat) (l1 : Option Value) (l2 : Option Value) (l3 : Option Value) (l4 : Option Value) (st : List Value) (σ : sS), Rx E d 257 2 [some (.null), l1, l2, l3, l4] st σ = Rx E d 257 3 [some (.null), l1, l2, l3, l4] (.null :: st) σ) ∧
  (∀ (E : sV) (d : Nat) (l0 : Option Value) (l2 : Option Value) (l3 : Option Value) (l4 : Option Value) (x : Int32) (st : List Value) (σ : sS), Rx E d 257 3 [l0, some (.int x), l2, l3, l4] st σ = Rx E d 257 4 [l0, some (.int x), l2, l3, l4] (.int x :: st) σ) ∧
  (∀ (E : sV) (d : Nat) (l0 : Option Value) (l1 : Option Value) (l3 : Option Value) (l4 : Option Value) (x : Int32) (st : List Value) (σ : sS), Rx E d 257 4 [l0, l1, some (.int x), l3, l4] st σ = Rx E d 257 5 [l0, l1, some (.int x), l3, l4] (.int x :: st) σ) ∧
  (∀ (E : sV) (d : Nat) (l0 l1 l2 l3 l4 : Option Value) (v1 v2 : Value) (b : Nat) (st : List Value) (σ : sS) (hc : cats st ≤ 8) (hb : isOb σ.1 b 7 = true), Rx E d 257 5 [l0, l1, l2, l3, l4] (v2 :: v1 :: .ref b :: st) σ = fin E d 257 (sRet gm257 5 [l0, l1, l2, l3, l4] st (Mt E d 88 [.ref b, v1, v2] σ))) ∧
  (∀ (E : sV) (d : Nat) (l0 l1 l2 l3 l4 : Option Value) (x : Int32) (st : List Value) (σ : sS), Rx E d 257 8 [l0, l1, l2, l3, l4] (.int x :: st) σ = Rx E d 257 9 [l0, l1, l2, l3, l4] (.long x.toInt64 :: st) σ) ∧
  (∀ (E : sV) (d : Nat) (l0 l1 l2 l3 l4 : Option Value) (x : Int64) (i : Int32) (a : Nat) (st : List Value) (σ : sS), Rx E d 257 9 [l0, l1, l2, l3, l4] (.long x :: .int i :: .ref a :: st) σ = if E.1 ≤ a then (astL σ.1 a i x).bind (fun h => Rx E d 257 10 [l0, l1, l2, l3, l4] st (h, σ.2)) else none) ∧
  (∀ (E : sV) (d : Nat) (l0 l1 l2 l3 l4 : Option Value) (st : List Value) (σ : sS), Rx E d 257 10 [l0, l1, l2, l3, l4] st σ = Rx E d 257 21 [l0, l1, l2, l3, l4] st σ) ∧
  (∀ (E : sV) (d : Nat) (l0 l1 l2 l3 l4 : Option Value) (x : Nat) (st : List Value) (σ : sS), Rx E d 257 13 [l0, l1, l2, l3, l4] (.ref x :: st) σ = Rx E d 257 15 [l0, l1, l2, ldrop l3, some (.ref x)] st σ) ∧
  (∀ (E : sV) (d : Nat) (l0 l1 l2 l3 l4 : Option Value) (st : List Value) (σ : sS), Rx E d 257 13 [l0, l1, l2, l3, l4] (.null :: st) σ = Rx E d 257 15 [l0, l1, l2, ldrop l3, some (.null)] st σ) ∧
  (∀ (E : sV) (d : Nat) (l0 l1 l2 l3 l4 : Option Value) (st : List Value) (σ : sS), Rx E d 257 15 [l0, l1, l2, l3, l4] st σ = Rx E d 257 16 [l0, l1, l2, l3, l4] (.int (1) :: st) σ) ∧
  (∀ (E : sV) (d : Nat) (l0 l1 l2 l3 l4 : Option Value) (v : Int32) (σ : sS), Rx E d 257 16 [l0, l1, l2, l3, l4] [.int v] σ = some (.inl (some (.int v)), σ)) ∧
  (∀ (E : sV) (d : Nat) (l0 l1 l2 l3 l4 : Option Value) (x : Nat) (st : List Value) (σ : sS), Rx E d 257 17 [l0, l1, l2, l3, l4] (.ref x :: st) σ = Rx E d 257 19 [l0, l1, l2, ldrop l3, some (.ref x)] st σ) ∧
  (∀ (E : sV) (d : Nat) (l0 l1 l2 l3 l4 : Option Value) (st : List Value) (σ : sS), Rx E d 257 17 [l0, l1, l2, l3, l4] (.null :: st) σ = Rx E d 257 19 [l0, l1, l2, ldrop l3, some (.null)] st σ) ∧
  (∀ (E : sV) (d : Nat) (l0 l1 l2 l3 l4 : Option Value) (st : List Value) (σ : sS), Rx E d 257 19 [l0, l1, l2, l3, l4] st σ = Rx E d 257 20 [l0, l1, l2, l3, l4] (.int (2) :: st) σ) ∧
  (∀ (E : sV) (d : Nat) (l0 l1 l2 l3 l4 : Option Value) (v : Int32) (σ : sS), Rx E d 257 20 [l0, l1, l2, l3, l4] [.int v] σ = some (.inl (some (.int v)), σ)) ∧
  (∀ (E : sV) (d : Nat) (l0 l1 l2 l3 l4 : Option Value) (st : List Value) (σ : sS), Rx E d 257 21 [l0, l1, l2, l3, l4] st σ = Rx E d 257 22 [l0, l1, l2, l3, l4] (.int (0) :: st) σ) ∧
  (∀ (E : sV) (d : Nat) (l0 l1 l2 l3 l4 : Option Value) (v : Int32) (σ : sS), Rx E d 257 22 [l0, l1, l2, l3, l4] [.int v] σ = some (.inl (some (.int v)), σ)) := ⟨fun _ _ _ _ _ _ _ _ _ => Rx_of gMT_257 d257_0 rfl,
  fun _ _ _ _ _ _ _ _ => Rx_of gMT_257 d257_0 rfl,
  fun _ _ _ _ _ _ _ _ _ => Rx_of gMT_257 d257_1 rfl,
  fun _ _ _ _ _ _ _ _ _ => Rx_of gMT_257 d257_2 rfl,
  fun _ _ _ _ _ _ _ _ => Rx_of gMT_257 d257_2 rfl,
  fun _ _ _ _ _ _ _ _ _ => Rx_of gMT_257 d257_3 rfl,
  fun _ _ _ _ _ _ _ _ _ => Rx_of gMT_257 d257_4 rfl,
  fun _ _ _ _ _ _ _ _ _ _ _ _ hc hb => Rx_callW gMT_257 d257_5 rfl rfl rfl rfl hc hb,
  fun _ _ _ _ _ _ _ _ _ _ => Rx_of gMT_257 d257_8 rfl,
  fun _ _ _ _ _ _ _ _ _ _ _ _ => Rx_ast gMT_257 d257_9 rfl rfl,
  fun _ _ _ _ _ _ _ _ _ => Rx_goto gMT_257 d257_10 rfl (by decide),
  fun _ _ _ _ _ _ _ _ _ _ => Rx_of gMT_257 d257_13 rfl,
  fun _ _ _ _ _ _ _ _ _ => Rx_of gMT_257 d257_13 rfl,
  fun _ _ _ _ _ _ _ _ _ => Rx_of gMT_257 d257_15 rfl,
  fun _ _ _ _ _ _ _ _ _ => Rx_iretI gMT_257 d257_16 rfl rfl,
  fun _ _ _ _ _ _ _ _ _ _ => Rx_of gMT_257 d257_17 rfl,
  fun _ _ _ _ _ _ _ _ _ => Rx_of gMT_257 d257_17 rfl,
  fun _ _ _ _ _ _ _ _ _ => Rx_of gMT_257 d257_19 rfl,
  fun _ _ _ _ _ _ _ _ _ => Rx_iretI gMT_257 d257_20 rfl rfl,
  fun _ _ _ _ _ _ _ _ _ => Rx_of gMT_257 d257_21 rfl,
  fun _ _ _ _ _ _ _ _ _ => Rx_iretI gMT_257 d257_22 rfl rfl⟩
-- QLaw_rest: QLaw_rest_0
theorem NLaw_rest (E : sV) (d : Nat) (a0 : Nat) (a1 : Int32) (a2 : Int32) (a3 : Nat) (σ : sS) : Mt E (d + 1) 257 [.ref a0, .int a1, .int a2, .ref a3] σ = Rx E d 257 0 [some (.ref a0), some (.int a1), some (.int a2), some (.ref a3), none] [] σ := Mt_succ gMT_257 (Nat.le_of_ble_eq_true rfl)
theorem QLaw_kind_0 : (∀ (E : sV) (d : Nat) (l0 : Option Value) (l1 : Option Value) (l3 : Option Value) (x : Nat) (st : List Value) (σ : sS), Rx E d 258 0 [l0, l1, some (.ref x), l3] st σ = Rx E d 258 1 [l0, l1, some (.ref x), l3] (.ref x :: st) σ) ∧
  (∀ (E : sV) (d : Nat) (l0 : Option Value) (l1 : Option Value) (l3 : Option Value) (st : List Value) (σ : sS), Rx E d 258 0 [l0, l1, some (.null), l3] st σ = Rx E d 258 1 [l0, l1, some (.null), l3] (.null :: st) σ) ∧
  (∀ (E : sV) (d : Nat) (l0 l1 l2 l3 : Option Value) (st : List Value) (σ : sS), Rx E d 258 1 [l0, l1, l2, l3] st σ = Rx E d 258 2 [l0, l1, l2, l3] (.int (0) :: st) σ) ∧
  (∀ (E : sV) (d : Nat) (l1 : Option Value) (l2 : Option Value) (l3 : Option Value) (x : Nat) (st : List Value) (σ : sS), Rx E d 258 2 [some (.ref x), l1, l2, l3] st σ = Rx E d 258 3 [some (.ref x), l1, l2, l3] (.ref x :: st) σ) ∧
  (∀ (E : sV) (d : Nat) (l1 : Option Value) (l2 : Option Value) (l3 : Option Value) (st : List Value) (σ : sS), Rx E d 258 2 [some (.null), l1, l2, l3] st σ = Rx E d 258 3 [some (.null), l1, l2, l3] (.null :: st) σ) ∧
  (∀ (E : sV) (d : Nat) (l0 : Option Value) (l2 : Option Value) (l3 : Option Value) (x : Int32) (st : List Value) (σ : sS), Rx E d 258 3 [l0, some (.int x), l2, l3] st σ = Rx E d 258 4 [l0, some (.int x), l2, l3] (.int x :: st) σ) ∧
  (∀ (E : sV) (d : Nat) (l0 l1 l2 l3 : Option Value) (v1 : Value) (b : Nat) (st : List Value) (σ : sS) (hc : cats st ≤ 8) (hb : isOb σ.1 b 7 = true), Rx E d 258 4 [l0, l1, l2, l3] (v1 :: .ref b :: st) σ = fin E d 258 (sRet gm258 4 [l0, l1, l2, l3] st (Mt E d 89 [.ref b, v1] σ))) ∧
  (∀ (E : sV) (d : Nat) (l0 l1 l2 l3 : Option Value) (x : Int32) (st : List Value) (σ : sS), Rx E d 258 7 [l0, l1, l2, l3] (.int x :: st) σ = Rx E d 258 8 [l0, l1, l2, l3] (.long x.toInt64 :: st) σ) ∧
  (∀ (E : sV) (d : Nat) (l0 l1 l2 l3 : Option Value) (x : Int64) (i : Int32) (a : Nat) (st : List Value) (σ : sS), Rx E d 258 8 [l0, l1, l2, l3] (.long x :: .int i :: .ref a :: st) σ = if E.1 ≤ a then (astL σ.1 a i x).bind (fun h => Rx E d 258 9 [l0, l1, l2, l3] st (h, σ.2)) else none) ∧
  (∀ (E : sV) (d : Nat) (l0 l1 l2 l3 : Option Value) (st : List Value) (σ : sS), Rx E d 258 9 [l0, l1, l2, l3] st σ = Rx E d 258 15 [l0, l1, l2, l3] st σ) ∧
  (∀ (E : sV) (d : Nat) (l0 l1 l2 l3 : Option Value) (x : Nat) (st : List Value) (σ : sS), Rx E d 258 12 [l0, l1, l2, l3] (.ref x :: st) σ = Rx E d 258 13 [l0, l1, ldrop l2, some (.ref x)] st σ) ∧
  (∀ (E : sV) (d : Nat) (l0 l1 l2 l3 : Option Value) (st : List Value) (σ : sS), Rx E d 258 12 [l0, l1, l2, l3] (.null :: st) σ = Rx E d 258 13 [l0, l1, ldrop l2, some (.null)] st σ) ∧
  (∀ (E : sV) (d : Nat) (l0 l1 l2 l3 : Option Value) (st : List Value) (σ : sS), Rx E d 258 13 [l0, l1, l2, l3] st σ = Rx E d 258 14 [l0, l1, l2, l3] (.int (1) :: st) σ) ∧
  (∀ (E : sV) (d : Nat) (l0 l1 l2 l3 : Option Value) (v : Int32) (σ : sS), Rx E d 258 14 [l0, l1, l2, l3] [.int v] σ = some (.inl (some (.int v)), σ)) ∧
  (∀ (E : sV) (d : Nat) (l0 l1 l2 l3 : Option Value) (st : List Value) (σ : sS), Rx E d 258 15 [l0, l1, l2, l3] st σ = Rx E d 258 16 [l0, l1, l2, l3] (.int (0) :: st) σ) ∧
  (∀ (E : sV) (d : Nat) (l0 l1 l2 l3 : Option Value) (v : Int32) (σ : sS), Rx E d 258 16 [l0, l1, l2, l3] [.int v] σ = some (.inl (some (.int v)), σ)) := ⟨fun _ _ _ _ _ _ _ _ => Rx_of gMT_258 d258_0 rfl,
  fun _ _ _ _ _ _ _ => Rx_of gMT_258 d258_0 rfl,
  fun _ _ _ _ _ _ _ _ => Rx_of gMT_258 d258_1 rfl,
  fun _ _ _ _ _ _ _ _ => Rx_of gMT_258 d258_2 rfl,
  fun _ _ _ _ _ _ _ => Rx_of gMT_258 d258_2 rfl,
  fun _ _ _ _ _ _ _ _ => Rx_of gMT_258 d258_3 rfl,
  fun _ _ _ _ _ _ _ _ _ _ hc hb => Rx_callW gMT_258 d258_4 rfl rfl rfl rfl hc hb,
  fun _ _ _ _ _ _ _ _ _ => Rx_of gMT_258 d258_7 rfl,
  fun _ _ _ _ _ _ _ _ _ _ _ => Rx_ast gMT_258 d258_8 rfl rfl,
  fun _ _ _ _ _ _ _ _ => Rx_goto gMT_258 d258_9 rfl (by decide),
  fun _ _ _ _ _ _ _ _ _ => Rx_of gMT_258 d258_12 rfl,
  fun _ _ _ _ _ _ _ _ => Rx_of gMT_258 d258_12 rfl,
  fun _ _ _ _ _ _ _ _ => Rx_of gMT_258 d258_13 rfl,
  fun _ _ _ _ _ _ _ _ => Rx_iretI gMT_258 d258_14 rfl rfl,
  fun _ _ _ _ _ _ _ _ => Rx_of gMT_258 d258_15 rfl,
  fun _ _ _ _ _ _ _ _ => Rx_iretI gMT_258 d258_16 rfl rfl⟩
-- QLaw_kind: QLaw_kind_0
theorem NLaw_kind (E : sV) (d : Nat) (a0 : Nat) (a1 : Int32) (a2 : Nat) (σ : sS) : Mt E (d + 1) 258 [.ref a0, .int a1, .ref a2] σ = Rx E d 258 0 [some (.ref a0), some (.int a1), some (.ref a2), none] [] σ := Mt_succ gMT_258 (Nat.le_of_ble_eq_true rfl)
theorem QLaw_tool_0 : (∀ (E : sV) (d : Nat) (l0 : Option Value) (l1 : Option Value) (l3 : Option Value) (x : Nat) (st : List Value) (σ : sS), Rx E d 259 0 [l0, l1, some (.ref x), l3] st σ = Rx E d 259 1 [l0, l1, some (.ref x), l3] (.ref x :: st) σ) ∧
  (∀ (E : sV) (d : Nat) (l0 : Option Value) (l1 : Option Value) (l3 : Option Value) (st : List Value) (σ : sS), Rx E d 259 0 [l0, l1, some (.null), l3] st σ = Rx E d 259 1 [l0, l1, some (.null), l3] (.null :: st) σ) ∧
  (∀ (E : sV) (d : Nat) (l0 l1 l2 l3 : Option Value) (st : List Value) (σ : sS), Rx E d 259 1 [l0, l1, l2, l3] st σ = Rx E d 259 2 [l0, l1, l2, l3] (.int (0) :: st) σ) ∧
  (∀ (E : sV) (d : Nat) (l1 : Option Value) (l2 : Option Value) (l3 : Option Value) (x : Nat) (st : List Value) (σ : sS), Rx E d 259 2 [some (.ref x), l1, l2, l3] st σ = Rx E d 259 3 [some (.ref x), l1, l2, l3] (.ref x :: st) σ) ∧
  (∀ (E : sV) (d : Nat) (l1 : Option Value) (l2 : Option Value) (l3 : Option Value) (st : List Value) (σ : sS), Rx E d 259 2 [some (.null), l1, l2, l3] st σ = Rx E d 259 3 [some (.null), l1, l2, l3] (.null :: st) σ) ∧
  (∀ (E : sV) (d : Nat) (l0 : Option Value) (l2 : Option Value) (l3 : Option Value) (x : Int32) (st : List Value) (σ : sS), Rx E d 259 3 [l0, some (.int x), l2, l3] st σ = Rx E d 259 4 [l0, some (.int x), l2, l3] (.int x :: st) σ) ∧
  (∀ (E : sV) (d : Nat) (l0 l1 l2 l3 : Option Value) (v1 : Value) (b : Nat) (st : List Value) (σ : sS) (hc : cats st ≤ 8) (hb : isOb σ.1 b 7 = true), Rx E d 259 4 [l0, l1, l2, l3] (v1 :: .ref b :: st) σ = fin E d 259 (sRet gm259 4 [l0, l1, l2, l3] st (Mt E d 92 [.ref b, v1] σ))) ∧
  (∀ (E : sV) (d : Nat) (l0 l1 l2 l3 : Option Value) (x : Int32) (st : List Value) (σ : sS), Rx E d 259 7 [l0, l1, l2, l3] (.int x :: st) σ = Rx E d 259 8 [l0, l1, l2, l3] (.long x.toInt64 :: st) σ) ∧
  (∀ (E : sV) (d : Nat) (l0 l1 l2 l3 : Option Value) (x : Int64) (i : Int32) (a : Nat) (st : List Value) (σ : sS), Rx E d 259 8 [l0, l1, l2, l3] (.long x :: .int i :: .ref a :: st) σ = if E.1 ≤ a then (astL σ.1 a i x).bind (fun h => Rx E d 259 9 [l0, l1, l2, l3] st (h, σ.2)) else none) ∧
  (∀ (E : sV) (d : Nat) (l0 l1 l2 l3 : Option Value) (st : List Value) (σ : sS), Rx E d 259 9 [l0, l1, l2, l3] st σ = Rx E d 259 15 [l0, l1, l2, l3] st σ) ∧
  (∀ (E : sV) (d : Nat) (l0 l1 l2 l3 : Option Value) (x : Nat) (st : List Value) (σ : sS), Rx E d 259 12 [l0, l1, l2, l3] (.ref x :: st) σ = Rx E d 259 13 [l0, l1, ldrop l2, some (.ref x)] st σ) ∧
  (∀ (E : sV) (d : Nat) (l0 l1 l2 l3 : Option Value) (st : List Value) (σ : sS), Rx E d 259 12 [l0, l1, l2, l3] (.null :: st) σ = Rx E d 259 13 [l0, l1, ldrop l2, some (.null)] st σ) ∧
  (∀ (E : sV) (d : Nat) (l0 l1 l2 l3 : Option Value) (st : List Value) (σ : sS), Rx E d 259 13 [l0, l1, l2, l3] st σ = Rx E d 259 14 [l0, l1, l2, l3] (.int (1) :: st) σ) ∧
  (∀ (E : sV) (d : Nat) (l0 l1 l2 l3 : Option Value) (v : Int32) (σ : sS), Rx E d 259 14 [l0, l1, l2, l3] [.int v] σ = some (.inl (some (.int v)), σ)) ∧
  (∀ (E : sV) (d : Nat) (l0 l1 l2 l3 : Option Value) (st : List Value) (σ : sS), Rx E d 259 15 [l0, l1, l2, l3] st σ = Rx E d 259 16 [l0, l1, l2, l3] (.int (0) :: st) σ) ∧
  (∀ (E : sV) (d : Nat) (l0 l1 l2 l3 : Option Value) (v : Int32) (σ : sS), Rx E d 259 16 [l0, l1, l2, l3] [.int v] σ = some (.inl (some (.int v)), σ)) := ⟨fun _ _ _ _ _ _ _ _ => Rx_of gMT_259 d259_0 rfl,
  fun _ _ _ _ _ _ _ => Rx_of gMT_259 d259_0 rfl,
  fun _ _ _ _ _ _ _ _ => Rx_of gMT_259 d259_1 rfl,
  fun _ _ _ _ _ _ _ _ => Rx_of gMT_259 d259_2 rfl,
  fun _ _ _ _ _ _ _ => Rx_of gMT_259 d259_2 rfl,
  fun _ _ _ _ _ _ _ _ => Rx_of gMT_259 d259_3 rfl,
  fun _ _ _ _ _ _ _ _ _ _ hc hb => Rx_callW gMT_259 d259_4 rfl rfl rfl rfl hc hb,
  fun _ _ _ _ _ _ _ _ _ => Rx_of gMT_259 d259_7 rfl,
  fun _ _ _ _ _ _ _ _ _ _ _ => Rx_ast gMT_259 d259_8 rfl rfl,
  fun _ _ _ _ _ _ _ _ => Rx_goto gMT_259 d259_9 rfl (by decide),
  fun _ _ _ _ _ _ _ _ _ => Rx_of gMT_259 d259_12 rfl,
  fun _ _ _ _ _ _ _ _ => Rx_of gMT_259 d259_12 rfl,
  fun _ _ _ _ _ _ _ _ => Rx_of gMT_259 d259_13 rfl,
  fun _ _ _ _ _ _ _ _ => Rx_iretI gMT_259 d259_14 rfl rfl,
  fun _ _ _ _ _ _ _ _ => Rx_of gMT_259 d259_15 rfl,
  fun _ _ _ _ _ _ _ _ => Rx_iretI gMT_259 d259_16 rfl rfl⟩
-- QLaw_tool: QLaw_tool_0
theorem NLaw_tool (E : sV) (d : Nat) (a0 : Nat) (a1 : Int32) (a2 : Nat) (σ : sS) : Mt E (d + 1) 259 [.ref a0, .int a1, .ref a2] σ = Rx E d 259 0 [some (.ref a0), some (.int a1), some (.ref a2), none] [] σ := Mt_succ gMT_259 (Nat.le_of_ble_eq_true rfl)
theorem QLaw_due_0 : (∀ (E : sV) (d : Nat) (l0 : Option Value) (l1 : Option Value) (l3 : Option Value) (x : Nat) (st : List Value) (σ : sS), Rx E d 260 0 [l0, l1, some (.ref x), l3] st σ = Rx E d 260 1 [l0, l1, some (.ref x), l3] (.ref x :: st) σ) ∧
  (∀ (E : sV) (d : Nat) (l0 : Option Value) (l1 : Option Value) (l3 : Option Value) (st : List Value) (σ : sS), Rx E d 260 0 [l0, l1, some (.null), l3] st σ = Rx E d 260 1 [l0, l1, some (.null), l3] (.null :: st) σ) ∧
  (∀ (E : sV) (d : Nat) (l0 l1 l2 l3 : Option Value) (st : List Value) (σ : sS), Rx E d 260 1 [l0, l1, l2, l3] st σ = Rx E d 260 2 [l0, l1, l2, l3] (.int (0) :: st) σ) ∧
  (∀ (E : sV) (d : Nat) (l1 : Option Value) (l2 : Option Value) (l3 : Option Value) (x : Nat) (st : List Value) (σ : sS), Rx E d 260 2 [some (.ref x), l1, l2, l3] st σ = Rx E d 260 3 [some (.ref x), l1, l2, l3] (.ref x :: st) σ) ∧
  (∀ (E : sV) (d : Nat) (l1 : Option Value) (l2 : Option Value) (l3 : Option Value) (st : List Value) (σ : sS), Rx E d 260 2 [some (.null), l1, l2, l3] st σ = Rx E d 260 3 [some (.null), l1, l2, l3] (.null :: st) σ) ∧
  (∀ (E : sV) (d : Nat) (l0 : Option Value) (l2 : Option Value) (l3 : Option Value) (x : Int32) (st : List Value) (σ : sS), Rx E d 260 3 [l0, some (.int x), l2, l3] st σ = Rx E d 260 4 [l0, some (.int x), l2, l3] (.int x :: st) σ) ∧
  (∀ (E : sV) (d : Nat) (l0 l1 l2 l3 : Option Value) (v1 : Value) (b : Nat) (st : List Value) (σ : sS) (hc : cats st ≤ 8) (hb : isOb σ.1 b 7 = true), Rx E d 260 4 [l0, l1, l2, l3] (v1 :: .ref b :: st) σ = fin E d 260 (sRet gm260 4 [l0, l1, l2, l3] st (Mt E d 93 [.ref b, v1] σ))) ∧
  (∀ (E : sV) (d : Nat) (l0 l1 l2 l3 : Option Value) (x : Int32) (st : List Value) (σ : sS), Rx E d 260 7 [l0, l1, l2, l3] (.int x :: st) σ = Rx E d 260 8 [l0, l1, l2, l3] (.long x.toInt64 :: st) σ) ∧
  (∀ (E : sV) (d : Nat) (l0 l1 l2 l3 : Option Value) (x : Int64) (i : Int32) (a : Nat) (st : List Value) (σ : sS), Rx E d 260 8 [l0, l1, l2, l3] (.long x :: .int i :: .ref a :: st) σ = if E.1 ≤ a then (astL σ.1 a i x).bind (fun h => Rx E d 260 9 [l0, l1, l2, l3] st (h, σ.2)) else none) ∧
  (∀ (E : sV) (d : Nat) (l0 l1 l2 l3 : Option Value) (st : List Value) (σ : sS), Rx E d 260 9 [l0, l1, l2, l3] st σ = Rx E d 260 15 [l0, l1, l2, l3] st σ) ∧
  (∀ (E : sV) (d : Nat) (l0 l1 l2 l3 : Option Value) (x : Nat) (st : List Value) (σ : sS), Rx E d 260 12 [l0, l1, l2, l3] (.ref x :: st) σ = Rx E d 260 13 [l0, l1, ldrop l2, some (.ref x)] st σ) ∧
  (∀ (E : sV) (d : Nat) (l0 l1 l2 l3 : Option Value) (st : List Value) (σ : sS), Rx E d 260 12 [l0, l1, l2, l3] (.null :: st) σ = Rx E d 260 13 [l0, l1, ldrop l2, some (.null)] st σ) ∧
  (∀ (E : sV) (d : Nat) (l0 l1 l2 l3 : Option Value) (st : List Value) (σ : sS), Rx E d 260 13 [l0, l1, l2, l3] st σ = Rx E d 260 14 [l0, l1, l2, l3] (.int (1) :: st) σ) ∧
  (∀ (E : sV) (d : Nat) (l0 l1 l2 l3 : Option Value) (v : Int32) (σ : sS), Rx E d 260 14 [l0, l1, l2, l3] [.int v] σ = some (.inl (some (.int v)), σ)) ∧
  (∀ (E : sV) (d : Nat) (l0 l1 l2 l3 : Option Value) (st : List Value) (σ : sS), Rx E d 260 15 [l0, l1, l2, l3] st σ = Rx E d 260 16 [l0, l1, l2, l3] (.int (0) :: st) σ) ∧
  (∀ (E : sV) (d : Nat) (l0 l1 l2 l3 : Option Value) (v : Int32) (σ : sS), Rx E d 260 16 [l0, l1, l2, l3] [.int v] σ = some (.inl (some (.int v)), σ)) := ⟨fun _ _ _ _ _ _ _ _ => Rx_of gMT_260 d260_0 rfl,
  fun _ _ _ _ _ _ _ => Rx_of gMT_260 d260_0 rfl,
  fun _ _ _ _ _ _ _ _ => Rx_of gMT_260 d260_1 rfl,
  fun _ _ _ _ _ _ _ _ => Rx_of gMT_260 d260_2 rfl,
  fun _ _ _ _ _ _ _ => Rx_of gMT_260 d260_2 rfl,
  fun _ _ _ _ _ _ _ _ => Rx_of gMT_260 d260_3 rfl,
  fun _ _ _ _ _ _ _ _ _ _ hc hb => Rx_callW gMT_260 d260_4 rfl rfl rfl rfl hc hb,
  fun _ _ _ _ _ _ _ _ _ => Rx_of gMT_260 d260_7 rfl,
  fun _ _ _ _ _ _ _ _ _ _ _ => Rx_ast gMT_260 d260_8 rfl rfl,
  fun _ _ _ _ _ _ _ _ => Rx_goto gMT_260 d260_9 rfl (by decide),
  fun _ _ _ _ _ _ _ _ _ => Rx_of gMT_260 d260_12 rfl,
  fun _ _ _ _ _ _ _ _ => Rx_of gMT_260 d260_12 rfl,
  fun _ _ _ _ _ _ _ _ => Rx_of gMT_260 d260_13 rfl,
  fun _ _ _ _ _ _ _ _ => Rx_iretI gMT_260 d260_14 rfl rfl,
  fun _ _ _ _ _ _ _ _ => Rx_of gMT_260 d260_15 rfl,
  fun _ _ _ _ _ _ _ _ => Rx_iretI gMT_260 d260_16 rfl rfl⟩
-- QLaw_due: QLaw_due_0
theorem NLaw_due (E : sV) (d : Nat) (a0 : Nat) (a1 : Int32) (a2 : Nat) (σ : sS) : Mt E (d + 1) 260 [.ref a0, .int a1, .ref a2] σ = Rx E d 260 0 [some (.ref a0), some (.int a1), some (.ref a2), none] [] σ := Mt_succ gMT_260 (Nat.le_of_ble_eq_true rfl)
theorem QLaw_barrowOf_0 : (∀ (E : sV) (d : Nat) (l0 : Option Value) (l1 : Option Value) (l3 : Option Value) (x : Nat) (st : List Value) (σ : sS), Rx E d 261 0 [l0, l1, some (.ref x), l3] st σ = Rx E d 261 1 [l0, l1, some (.ref x), l3] (.ref x :: st) σ) ∧
  (∀ (E : sV) (d : Nat) (l0 : Option Value) (l1 : Option Value) (l3 : Option Value) (st : List Value) (σ : sS), Rx E d 261 0 [l0, l1, some (.null), l3] st σ = Rx E d 261 1 [l0, l1, some (.null), l3] (.null :: st) σ) ∧
  (∀ (E : sV) (d : Nat) (l0 l1 l2 l3 : Option Value) (st : List Value) (σ : sS), Rx E d 261 1 [l0, l1, l2, l3] st σ = Rx E d 261 2 [l0, l1, l2, l3] (.int (0) :: st) σ) ∧
  (∀ (E : sV) (d : Nat) (l1 : Option Value) (l2 : Option Value) (l3 : Option Value) (x : Nat) (st : List Value) (σ : sS), Rx E d 261 2 [some (.ref x), l1, l2, l3] st σ = Rx E d 261 3 [some (.ref x), l1, l2, l3] (.ref x :: st) σ) ∧
  (∀ (E : sV) (d : Nat) (l1 : Option Value) (l2 : Option Value) (l3 : Option Value) (st : List Value) (σ : sS), Rx E d 261 2 [some (.null), l1, l2, l3] st σ = Rx E d 261 3 [some (.null), l1, l2, l3] (.null :: st) σ) ∧
  (∀ (E : sV) (d : Nat) (l0 : Option Value) (l2 : Option Value) (l3 : Option Value) (x : Int32) (st : List Value) (σ : sS), Rx E d 261 3 [l0, some (.int x), l2, l3] st σ = Rx E d 261 4 [l0, some (.int x), l2, l3] (.int x :: st) σ) ∧
  (∀ (E : sV) (d : Nat) (l0 l1 l2 l3 : Option Value) (v1 : Value) (b : Nat) (st : List Value) (σ : sS) (hc : cats st ≤ 8) (hb : isOb σ.1 b 7 = true), Rx E d 261 4 [l0, l1, l2, l3] (v1 :: .ref b :: st) σ = fin E d 261 (sRet gm261 4 [l0, l1, l2, l3] st (Mt E d 94 [.ref b, v1] σ))) ∧
  (∀ (E : sV) (d : Nat) (l0 l1 l2 l3 : Option Value) (x : Int32) (st : List Value) (σ : sS), Rx E d 261 7 [l0, l1, l2, l3] (.int x :: st) σ = Rx E d 261 8 [l0, l1, l2, l3] (.long x.toInt64 :: st) σ) ∧
  (∀ (E : sV) (d : Nat) (l0 l1 l2 l3 : Option Value) (x : Int64) (i : Int32) (a : Nat) (st : List Value) (σ : sS), Rx E d 261 8 [l0, l1, l2, l3] (.long x :: .int i :: .ref a :: st) σ = if E.1 ≤ a then (astL σ.1 a i x).bind (fun h => Rx E d 261 9 [l0, l1, l2, l3] st (h, σ.2)) else none) ∧
  (∀ (E : sV) (d : Nat) (l0 l1 l2 l3 : Option Value) (st : List Value) (σ : sS), Rx E d 261 9 [l0, l1, l2, l3] st σ = Rx E d 261 15 [l0, l1, l2, l3] st σ) ∧
  (∀ (E : sV) (d : Nat) (l0 l1 l2 l3 : Option Value) (x : Nat) (st : List Value) (σ : sS), Rx E d 261 12 [l0, l1, l2, l3] (.ref x :: st) σ = Rx E d 261 13 [l0, l1, ldrop l2, some (.ref x)] st σ) ∧
  (∀ (E : sV) (d : Nat) (l0 l1 l2 l3 : Option Value) (st : List Value) (σ : sS), Rx E d 261 12 [l0, l1, l2, l3] (.null :: st) σ = Rx E d 261 13 [l0, l1, ldrop l2, some (.null)] st σ) ∧
  (∀ (E : sV) (d : Nat) (l0 l1 l2 l3 : Option Value) (st : List Value) (σ : sS), Rx E d 261 13 [l0, l1, l2, l3] st σ = Rx E d 261 14 [l0, l1, l2, l3] (.int (1) :: st) σ) ∧
  (∀ (E : sV) (d : Nat) (l0 l1 l2 l3 : Option Value) (v : Int32) (σ : sS), Rx E d 261 14 [l0, l1, l2, l3] [.int v] σ = some (.inl (some (.int v)), σ)) ∧
  (∀ (E : sV) (d : Nat) (l0 l1 l2 l3 : Option Value) (st : List Value) (σ : sS), Rx E d 261 15 [l0, l1, l2, l3] st σ = Rx E d 261 16 [l0, l1, l2, l3] (.int (0) :: st) σ) ∧
  (∀ (E : sV) (d : Nat) (l0 l1 l2 l3 : Option Value) (v : Int32) (σ : sS), Rx E d 261 16 [l0, l1, l2, l3] [.int v] σ = some (.inl (some (.int v)), σ)) := ⟨fun _ _ _ _ _ _ _ _ => Rx_of gMT_261 d261_0 rfl,
  fun _ _ _ _ _ _ _ => Rx_of gMT_261 d261_0 rfl,
  fun _ _ _ _ _ _ _ _ => Rx_of gMT_261 d261_1 rfl,
  fun _ _ _ _ _ _ _ _ => Rx_of gMT_261 d261_2 rfl,
  fun _ _ _ _ _ _ _ => Rx_of gMT_261 d261_2 rfl,
  fun _ _ _ _ _ _ _ _ => Rx_of gMT_261 d261_3 rfl,
  fun _ _ _ _ _ _ _ _ _ _ hc hb => Rx_callW gMT_261 d261_4 rfl rfl rfl rfl hc hb,
  fun _ _ _ _ _ _ _ _ _ => Rx_of gMT_261 d261_7 rfl,
  fun _ _ _ _ _ _ _ _ _ _ _ => Rx_ast gMT_261 d261_8 rfl rfl,
  fun _ _ _ _ _ _ _ _ => Rx_goto gMT_261 d261_9 rfl (by decide),
  fun _ _ _ _ _ _ _ _ _ => Rx_of gMT_261 d261_12 rfl,
  fun _ _ _ _ _ _ _ _ => Rx_of gMT_261 d261_12 rfl,
  fun _ _ _ _ _ _ _ _ => Rx_of gMT_261 d261_13 rfl,
  fun _ _ _ _ _ _ _ _ => Rx_iretI gMT_261 d261_14 rfl rfl,
  fun _ _ _ _ _ _ _ _ => Rx_of gMT_261 d261_15 rfl,
  fun _ _ _ _ _ _ _ _ => Rx_iretI gMT_261 d261_16 rfl rfl⟩
-- QLaw_barrowOf: QLaw_barrowOf_0
theorem NLaw_barrowOf (E : sV) (d : Nat) (a0 : Nat) (a1 : Int32) (a2 : Nat) (σ : sS) : Mt E (d + 1) 261 [.ref a0, .int a1, .ref a2] σ = Rx E d 261 0 [some (.ref a0), some (.int a1), some (.ref a2), none] [] σ := Mt_succ gMT_261 (Nat.le_of_ble_eq_true rfl)
theorem QLaw_jobByDue_0 : (∀ (E : sV) (d : Nat) (l0 : Option Value) (l1 : Option Value) (l3 : Option Value) (x : Nat) (st : List Value) (σ : sS), Rx E d 262 0 [l0, l1, some (.ref x), l3] st σ = Rx E d 262 1 [l0, l1, some (.ref x), l3] (.ref x :: st) σ) ∧
  (∀ (E : sV) (d : Nat) (l0 : Option Value) (l1 : Option Value) (l3 : Option Value) (st : List Value) (σ : sS), Rx E d 262 0 [l0, l1, some (.null), l3] st σ = Rx E d 262 1 [l0, l1, some (.null), l3] (.null :: st) σ) ∧
  (∀ (E : sV) (d : Nat) (l0 l1 l2 l3 : Option Value) (st : List Value) (σ : sS), Rx E d 262 1 [l0, l1, l2, l3] st σ = Rx E d 262 2 [l0, l1, l2, l3] (.int (0) :: st) σ) ∧
  (∀ (E : sV) (d : Nat) (l1 : Option Value) (l2 : Option Value) (l3 : Option Value) (x : Nat) (st : List Value) (σ : sS), Rx E d 262 2 [some (.ref x), l1, l2, l3] st σ = Rx E d 262 3 [some (.ref x), l1, l2, l3] (.ref x :: st) σ) ∧
  (∀ (E : sV) (d : Nat) (l1 : Option Value) (l2 : Option Value) (l3 : Option Value) (st : List Value) (σ : sS), Rx E d 262 2 [some (.null), l1, l2, l3] st σ = Rx E d 262 3 [some (.null), l1, l2, l3] (.null :: st) σ) ∧
  (∀ (E : sV) (d : Nat) (l0 : Option Value) (l2 : Option Value) (l3 : Option Value) (x : Int32) (st : List Value) (σ : sS), Rx E d 262 3 [l0, some (.int x), l2, l3] st σ = Rx E d 262 4 [l0, some (.int x), l2, l3] (.int x :: st) σ) ∧
  (∀ (E : sV) (d : Nat) (l0 l1 l2 l3 : Option Value) (v1 : Value) (b : Nat) (st : List Value) (σ : sS) (hc : cats st ≤ 8) (hb : isOb σ.1 b 7 = true), Rx E d 262 4 [l0, l1, l2, l3] (v1 :: .ref b :: st) σ = fin E d 262 (sRet gm262 4 [l0, l1, l2, l3] st (Mt E d 95 [.ref b, v1] σ))) ∧
  (∀ (E : sV) (d : Nat) (l0 l1 l2 l3 : Option Value) (x : Int32) (st : List Value) (σ : sS), Rx E d 262 7 [l0, l1, l2, l3] (.int x :: st) σ = Rx E d 262 8 [l0, l1, l2, l3] (.long x.toInt64 :: st) σ) ∧
  (∀ (E : sV) (d : Nat) (l0 l1 l2 l3 : Option Value) (x : Int64) (i : Int32) (a : Nat) (st : List Value) (σ : sS), Rx E d 262 8 [l0, l1, l2, l3] (.long x :: .int i :: .ref a :: st) σ = if E.1 ≤ a then (astL σ.1 a i x).bind (fun h => Rx E d 262 9 [l0, l1, l2, l3] st (h, σ.2)) else none) ∧
  (∀ (E : sV) (d : Nat) (l0 l1 l2 l3 : Option Value) (st : List Value) (σ : sS), Rx E d 262 9 [l0, l1, l2, l3] st σ = Rx E d 262 15 [l0, l1, l2, l3] st σ) ∧
  (∀ (E : sV) (d : Nat) (l0 l1 l2 l3 : Option Value) (x : Nat) (st : List Value) (σ : sS), Rx E d 262 12 [l0, l1, l2, l3] (.ref x :: st) σ = Rx E d 262 13 [l0, l1, ldrop l2, some (.ref x)] st σ) ∧
  (∀ (E : sV) (d : Nat) (l0 l1 l2 l3 : Option Value) (st : List Value) (σ : sS), Rx E d 262 12 [l0, l1, l2, l3] (.null :: st) σ = Rx E d 262 13 [l0, l1, ldrop l2, some (.null)] st σ) ∧
  (∀ (E : sV) (d : Nat) (l0 l1 l2 l3 : Option Value) (st : List Value) (σ : sS), Rx E d 262 13 [l0, l1, l2, l3] st σ = Rx E d 262 14 [l0, l1, l2, l3] (.int (1) :: st) σ) ∧
  (∀ (E : sV) (d : Nat) (l0 l1 l2 l3 : Option Value) (v : Int32) (σ : sS), Rx E d 262 14 [l0, l1, l2, l3] [.int v] σ = some (.inl (some (.int v)), σ)) ∧
  (∀ (E : sV) (d : Nat) (l0 l1 l2 l3 : Option Value) (st : List Value) (σ : sS), Rx E d 262 15 [l0, l1, l2, l3] st σ = Rx E d 262 16 [l0, l1, l2, l3] (.int (0) :: st) σ) ∧
  (∀ (E : sV) (d : Nat) (l0 l1 l2 l3 : Option Value) (v : Int32) (σ : sS), Rx E d 262 16 [l0, l1, l2, l3] [.int v] σ = some (.inl (some (.int v)), σ)) := ⟨fun _ _ _ _ _ _ _ _ => Rx_of gMT_262 d262_0 rfl,
  fun _ _ _ _ _ _ _ => Rx_of gMT_262 d262_0 rfl,
  fun _ _ _ _ _ _ _ _ => Rx_of gMT_262 d262_1 rfl,
  fun _ _ _ _ _ _ _ _ => Rx_of gMT_262 d262_2 rfl,
  fun _ _ _ _ _ _ _ => Rx_of gMT_262 d262_2 rfl,
  fun _ _ _ _ _ _ _ _ => Rx_of gMT_262 d262_3 rfl,
  fun _ _ _ _ _ _ _ _ _ _ hc hb => Rx_callW gMT_262 d262_4 rfl rfl rfl rfl hc hb,
  fun _ _ _ _ _ _ _ _ _ => Rx_of gMT_262 d262_7 rfl,
  fun _ _ _ _ _ _ _ _ _ _ _ => Rx_ast gMT_262 d262_8 rfl rfl,
  fun _ _ _ _ _ _ _ _ => Rx_goto gMT_262 d262_9 rfl (by decide),
  fun _ _ _ _ _ _ _ _ _ => Rx_of gMT_262 d262_12 rfl,
  fun _ _ _ _ _ _ _ _ => Rx_of gMT_262 d262_12 rfl,
  fun _ _ _ _ _ _ _ _ => Rx_of gMT_262 d262_13 rfl,
  fun _ _ _ _ _ _ _ _ => Rx_iretI gMT_262 d262_14 rfl rfl,
  fun _ _ _ _ _ _ _ _ => Rx_of gMT_262 d262_15 rfl,
  fun _ _ _ _ _ _ _ _ => Rx_iretI gMT_262 d262_16 rfl rfl⟩
-- QLaw_jobByDue: QLaw_jobByDue_0
theorem NLaw_jobByDue (E : sV) (d : Nat) (a0 : Nat) (a1 : Int32) (a2 : Nat) (σ : sS) : Mt E (d + 1) 262 [.ref a0, .int a1, .ref a2] σ = Rx E d 262 0 [some (.ref a0), some (.int a1), some (.ref a2), none] [] σ := Mt_succ gMT_262 (Nat.le_of_ble_eq_true rfl)
theorem QLaw_stock_0 : (∀ (E : sV) (d : Nat) (l0 : Option Value) (l1 : Option Value) (l3 : Option Value) (x : Nat) (st : List Value) (σ : sS), Rx E d 263 0 [l0, l1, some (.ref x), l3] st σ = Rx E d 263 1 [l0, l1, some (.ref x), l3] (.ref x :: st) σ) ∧
  (∀ (E : sV) (d : Nat) (l0 : Option Value) (l1 : Option Value) (l3 : Option Value) (st : List Value) (σ : sS), Rx E d 263 0 [l0, l1, some (.null), l3] st σ = Rx E d 263 1 [l0, l1, some (.null), l3] (.null :: st) σ) ∧
  (∀ (E : sV) (d : Nat) (l0 l1 l2 l3 : Option Value) (st : List Value) (σ : sS), Rx E d 263 1 [l0, l1, l2, l3] st σ = Rx E d 263 2 [l0, l1, l2, l3] (.int (0) :: st) σ) ∧
  (∀ (E : sV) (d : Nat) (l1 : Option Value) (l2 : Option Value) (l3 : Option Value) (x : Nat) (st : List Value) (σ : sS), Rx E d 263 2 [some (.ref x), l1, l2, l3] st σ = Rx E d 263 3 [some (.ref x), l1, l2, l3] (.ref x :: st) σ) ∧
  (∀ (E : sV) (d : Nat) (l1 : Option Value) (l2 : Option Value) (l3 : Option Value) (st : List Value) (σ : sS), Rx E d 263 2 [some (.null), l1, l2, l3] st σ = Rx E d 263 3 [some (.null), l1, l2, l3] (.null :: st) σ) ∧
  (∀ (E : sV) (d : Nat) (l0 : Option Value) (l2 : Option Value) (l3 : Option Value) (x : Int32) (st : List Value) (σ : sS), Rx E d 263 3 [l0, some (.int x), l2, l3] st σ = Rx E d 263 4 [l0, some (.int x), l2, l3] (.int x :: st) σ) ∧
  (∀ (E : sV) (d : Nat) (l0 l1 l2 l3 : Option Value) (v1 : Value) (b : Nat) (st : List Value) (σ : sS) (hc : cats st ≤ 8) (hb : isOb σ.1 b 7 = true), Rx E d 263 4 [l0, l1, l2, l3] (v1 :: .ref b :: st) σ = fin E d 263 (sRet gm263 4 [l0, l1, l2, l3] st (Mt E d 96 [.ref b, v1] σ))) ∧
  (∀ (E : sV) (d : Nat) (l0 l1 l2 l3 : Option Value) (x : Int32) (st : List Value) (σ : sS), Rx E d 263 7 [l0, l1, l2, l3] (.int x :: st) σ = Rx E d 263 8 [l0, l1, l2, l3] (.long x.toInt64 :: st) σ) ∧
  (∀ (E : sV) (d : Nat) (l0 l1 l2 l3 : Option Value) (x : Int64) (i : Int32) (a : Nat) (st : List Value) (σ : sS), Rx E d 263 8 [l0, l1, l2, l3] (.long x :: .int i :: .ref a :: st) σ = if E.1 ≤ a then (astL σ.1 a i x).bind (fun h => Rx E d 263 9 [l0, l1, l2, l3] st (h, σ.2)) else none) ∧
  (∀ (E : sV) (d : Nat) (l0 l1 l2 l3 : Option Value) (st : List Value) (σ : sS), Rx E d 263 9 [l0, l1, l2, l3] st σ = Rx E d 263 15 [l0, l1, l2, l3] st σ) ∧
  (∀ (E : sV) (d : Nat) (l0 l1 l2 l3 : Option Value) (x : Nat) (st : List Value) (σ : sS), Rx E d 263 12 [l0, l1, l2, l3] (.ref x :: st) σ = Rx E d 263 13 [l0, l1, ldrop l2, some (.ref x)] st σ) ∧
  (∀ (E : sV) (d : Nat) (l0 l1 l2 l3 : Option Value) (st : List Value) (σ : sS), Rx E d 263 12 [l0, l1, l2, l3] (.null :: st) σ = Rx E d 263 13 [l0, l1, ldrop l2, some (.null)] st σ) ∧
  (∀ (E : sV) (d : Nat) (l0 l1 l2 l3 : Option Value) (st : List Value) (σ : sS), Rx E d 263 13 [l0, l1, l2, l3] st σ = Rx E d 263 14 [l0, l1, l2, l3] (.int (1) :: st) σ) ∧
  (∀ (E : sV) (d : Nat) (l0 l1 l2 l3 : Option Value) (v : Int32) (σ : sS), Rx E d 263 14 [l0, l1, l2, l3] [.int v] σ = some (.inl (some (.int v)), σ)) ∧
  (∀ (E : sV) (d : Nat) (l0 l1 l2 l3 : Option Value) (st : List Value) (σ : sS), Rx E d 263 15 [l0, l1, l2, l3] st σ = Rx E d 263 16 [l0, l1, l2, l3] (.int (0) :: st) σ) ∧
  (∀ (E : sV) (d : Nat) (l0 l1 l2 l3 : Option Value) (v : Int32) (σ : sS), Rx E d 263 16 [l0, l1, l2, l3] [.int v] σ = some (.inl (some (.int v)), σ)) := ⟨fun _ _ _ _ _ _ _ _ => Rx_of gMT_263 d263_0 rfl,
  fun _ _ _ _ _ _ _ => Rx_of gMT_263 d263_0 rfl,
  fun _ _ _ _ _ _ _ _ => Rx_of gMT_263 d263_1 rfl,
  fun _ _ _ _ _ _ _ _ => Rx_of gMT_263 d263_2 rfl,
  fun _ _ _ _ _ _ _ => Rx_of gMT_263 d263_2 rfl,
  fun _ _ _ _ _ _ _ _ => Rx_of gMT_263 d263_3 rfl,
  fun _ _ _ _ _ _ _ _ _ _ hc hb => Rx_callW gMT_263 d263_4 rfl rfl rfl rfl hc hb,
  fun _ _ _ _ _ _ _ _ _ => Rx_of gMT_263 d263_7 rfl,
  fun _ _ _ _ _ _ _ _ _ _ _ => Rx_ast gMT_263 d263_8 rfl rfl,
  fun _ _ _ _ _ _ _ _ => Rx_goto gMT_263 d263_9 rfl (by decide),
  fun _ _ _ _ _ _ _ _ _ => Rx_of gMT_263 d263_12 rfl,
  fun _ _ _ _ _ _ _ _ => Rx_of gMT_263 d263_12 rfl,
  fun _ _ _ _ _ _ _ _ => Rx_of gMT_263 d263_13 rfl,
  fun _ _ _ _ _ _ _ _ => Rx_iretI gMT_263 d263_14 rfl rfl,
  fun _ _ _ _ _ _ _ _ => Rx_of gMT_263 d263_15 rfl,
  fun _ _ _ _ _ _ _ _ => Rx_iretI gMT_263 d263_16 rfl rfl⟩
-- QLaw_stock: QLaw_stock_0
theorem NLaw_stock (E : sV) (d : Nat) (a0 : Nat) (a1 : Int32) (a2 : Nat) (σ : sS) : Mt E (d + 1) 263 [.ref a0, .int a1, .ref a2] σ = Rx E d 263 0 [some (.ref a0), some (.int a1), some (.ref a2), none] [] σ := Mt_succ gMT_263 (Nat.le_of_ble_eq_true rfl)
theorem QLaw_parts_0 : (∀ (E : sV) (d : Nat) (l0 : Option Value) (l1 : Option Value) (l2 : Option Value) (l4 : Option Value) (x : Nat) (st : List Value) (σ : sS), Rx E d 264 0 [l0, l1, l2, some (.ref x), l4] st σ = Rx E d 264 1 [l0, l1, l2, some (.ref x), l4] (.ref x :: st) σ) ∧
  (∀ (E : sV) (d : Nat) (l0 : Option Value) (l1 : Option Value) (l2 : Option Value) (l4 : Option Value) (st : List Value) (σ : sS), Rx E d 264 0 [l0, l1, l2, some (.null), l4] st σ = Rx E d 264 1 [l0, l1, l2, some (.null), l4] (.null :: st) σ) ∧
  (∀ (E : sV) (d : Nat) (l0 l1 l2 l3 l4 : Option Value) (st : List Value) (σ : sS), Rx E d 264 1 [l0, l1, l2, l3, l4] st σ = Rx E d 264 2 [l0, l1, l2, l3, l4] (.int (0) :: st) σ) ∧
  (∀ (E : sV) (d : Nat) (l1 : Option Value) (l2 : Option Value) (l3 : Option Value) (l4 : Option Value) (x : Nat) (st : List Value) (σ : sS), Rx E d 264 2 [some (.ref x), l1, l2, l3, l4] st σ = Rx E d 264 3 [some (.ref x), l1, l2, l3, l4] (.ref x :: st) σ) ∧
  (∀ (E : sV) (d : Nat) (l1 : Option Value) (l2 : Option Value) (l3 : Option Value) (l4 : Option Value) (st : List Value) (σ : sS), Rx E d 264 2 [some (.null), l1, l2, l3, l4] st σ = Rx E d 264 3 [some (.null), l1, l2, l3, l4] (.null :: st) σ) ∧
  (∀ (E : sV) (d : Nat) (l0 : Option Value) (l2 : Option Value) (l3 : Option Value) (l4 : Option Value) (x : Int32) (st : List Value) (σ : sS), Rx E d 264 3 [l0, some (.int x), l2, l3, l4] st σ = Rx E d 264 4 [l0, some (.int x), l2, l3, l4] (.int x :: st) σ) ∧
  (∀ (E : sV) (d : Nat) (l0 : Option Value) (l1 : Option Value) (l3 : Option Value) (l4 : Option Value) (x : Int32) (st : List Value) (σ : sS), Rx E d 264 4 [l0, l1, some (.int x), l3, l4] st σ = Rx E d 264 5 [l0, l1, some (.int x), l3, l4] (.int x :: st) σ) ∧
  (∀ (E : sV) (d : Nat) (l0 l1 l2 l3 l4 : Option Value) (v1 v2 : Value) (b : Nat) (st : List Value) (σ : sS) (hc : cats st ≤ 8) (hb : isOb σ.1 b 7 = true), Rx E d 264 5 [l0, l1, l2, l3, l4] (v2 :: v1 :: .ref b :: st) σ = fin E d 264 (sRet gm264 5 [l0, l1, l2, l3, l4] st (Mt E d 98 [.ref b, v1, v2] σ))) ∧
  (∀ (E : sV) (d : Nat) (l0 l1 l2 l3 l4 : Option Value) (x : Int32) (st : List Value) (σ : sS), Rx E d 264 8 [l0, l1, l2, l3, l4] (.int x :: st) σ = Rx E d 264 9 [l0, l1, l2, l3, l4] (.long x.toInt64 :: st) σ) ∧
  (∀ (E : sV) (d : Nat) (l0 l1 l2 l3 l4 : Option Value) (x : Int64) (i : Int32) (a : Nat) (st : List Value) (σ : sS), Rx E d 264 9 [l0, l1, l2, l3, l4] (.long x :: .int i :: .ref a :: st) σ = if E.1 ≤ a then (astL σ.1 a i x).bind (fun h => Rx E d 264 10 [l0, l1, l2, l3, l4] st (h, σ.2)) else none) ∧
  (∀ (E : sV) (d : Nat) (l0 l1 l2 l3 l4 : Option Value) (st : List Value) (σ : sS), Rx E d 264 10 [l0, l1, l2, l3, l4] st σ = Rx E d 264 21 [l0, l1, l2, l3, l4] st σ) ∧
  (∀ (E : sV) (d : Nat) (l0 l1 l2 l3 l4 : Option Value) (x : Nat) (st : List Value) (σ : sS), Rx E d 264 13 [l0, l1, l2, l3, l4] (.ref x :: st) σ = Rx E d 264 15 [l0, l1, l2, ldrop l3, some (.ref x)] st σ) ∧
  (∀ (E : sV) (d : Nat) (l0 l1 l2 l3 l4 : Option Value) (st : List Value) (σ : sS), Rx E d 264 13 [l0, l1, l2, l3, l4] (.null :: st) σ = Rx E d 264 15 [l0, l1, l2, ldrop l3, some (.null)] st σ) ∧
  (∀ (E : sV) (d : Nat) (l0 l1 l2 l3 l4 : Option Value) (st : List Value) (σ : sS), Rx E d 264 15 [l0, l1, l2, l3, l4] st σ = Rx E d 264 16 [l0, l1, l2, l3, l4] (.int (1) :: st) σ) ∧
  (∀ (E : sV) (d : Nat) (l0 l1 l2 l3 l4 : Option Value) (v : Int32) (σ : sS), Rx E d 264 16 [l0, l1, l2, l3, l4] [.int v] σ = some (.inl (some (.int v)), σ)) ∧
  (∀ (E : sV) (d : Nat) (l0 l1 l2 l3 l4 : Option Value) (x : Nat) (st : List Value) (σ : sS), Rx E d 264 17 [l0, l1, l2, l3, l4] (.ref x :: st) σ = Rx E d 264 19 [l0, l1, l2, ldrop l3, some (.ref x)] st σ) ∧
  (∀ (E : sV) (d : Nat) (l0 l1 l2 l3 l4 : Option Value) (st : List Value) (σ : sS), Rx E d 264 17 [l0, l1, l2, l3, l4] (.null :: st) σ = Rx E d 264 19 [l0, l1, l2, ldrop l3, some (.null)] st σ) ∧
  (∀ (E : sV) (d : Nat) (l0 l1 l2 l3 l4 : Option Value) (st : List Value) (σ : sS), Rx E d 264 19 [l0, l1, l2, l3, l4] st σ = Rx E d 264 20 [l0, l1, l2, l3, l4] (.int (2) :: st) σ) ∧
  (∀ (E : sV) (d : Nat) (l0 l1 l2 l3 l4 : Option Value) (v : Int32) (σ : sS), Rx E d 264 20 [l0, l1, l2, l3, l4] [.int v] σ = some (.inl (some (.int v)), σ)) ∧
  (∀ (E : sV) (d : Nat) (l0 l1 l2 l3 l4 : Option Value) (st : List Value) (σ : sS), Rx E d 264 21 [l0, l1, l2, l3, l4] st σ = Rx E d 264 22 [l0, l1, l2, l3, l4] (.int (0) :: st) σ) ∧
  (∀ (E : sV) (d : Nat) (l0 l1 l2 l3 l4 : Option Value) (v : Int32) (σ : sS), Rx E d 264 22 [l0, l1, l2, l3, l4] [.int v] σ = some (.inl (some (.int v)), σ)) := ⟨fun _ _ _ _ _ _ _ _ _ => Rx_of gMT_264 d264_0 rfl,
  fun _ _ _ _ _ _ _ _ => Rx_of gMT_264 d264_0 rfl,
  fun _ _ _ _ _ _ _ _ _ => Rx_of gMT_264 d264_1 rfl,
  fun _ _ _ _ _ _ _ _ _ => Rx_of gMT_264 d264_2 rfl,
  fun _ _ _ _ _ _ _ _ => Rx_of gMT_264 d264_2 rfl,
  fun _ _ _ _ _ _ _ _ _ => Rx_of gMT_264 d264_3 rfl,
  fun _ _ _ _ _ _ _ _ _ => Rx_of gMT_264 d264_4 rfl,
  fun _ _ _ _ _ _ _ _ _ _ _ _ hc hb => Rx_callW gMT_264 d264_5 rfl rfl rfl rfl hc hb,
  fun _ _ _ _ _ _ _ _ _ _ => Rx_of gMT_264 d264_8 rfl,
  fun _ _ _ _ _ _ _ _ _ _ _ _ => Rx_ast gMT_264 d264_9 rfl rfl,
  fun _ _ _ _ _ _ _ _ _ => Rx_goto gMT_264 d264_10 rfl (by decide),
  fun _ _ _ _ _ _ _ _ _ _ => Rx_of gMT_264 d264_13 rfl,
  fun _ _ _ _ _ _ _ _ _ => Rx_of gMT_264 d264_13 rfl,
  fun _ _ _ _ _ _ _ _ _ => Rx_of gMT_264 d264_15 rfl,
  fun _ _ _ _ _ _ _ _ _ => Rx_iretI gMT_264 d264_16 rfl rfl,
  fun _ _ _ _ _ _ _ _ _ _ => Rx_of gMT_264 d264_17 rfl,
  fun _ _ _ _ _ _ _ _ _ => Rx_of gMT_264 d264_17 rfl,
  fun _ _ _ _ _ _ _ _ _ => Rx_of gMT_264 d264_19 rfl,
  fun _ _ _ _ _ _ _ _ _ => Rx_iretI gMT_264 d264_20 rfl rfl,
  fun _ _ _ _ _ _ _ _ _ => Rx_of gMT_264 d264_21 rfl,
  fun _ _ _ _ _ _ _ _ _ => Rx_iretI gMT_264 d264_22 rfl rfl⟩
-- QLaw_parts: QLaw_parts_0
theorem NLaw_parts (E : sV) (d : Nat) (a0 : Nat) (a1 : Int32) (a2 : Int32) (a3 : Nat) (σ : sS) : Mt E (d + 1) 264 [.ref a0, .int a1, .int a2, .ref a3] σ = Rx E d 264 0 [some (.ref a0), some (.int a1), some (.int a2), some (.ref a3), none] [] σ := Mt_succ gMT_264 (Nat.le_of_ble_eq_true rfl)
theorem QLaw_tools_0 : (∀ (E : sV) (d : Nat) (l0 : Option Value) (l1 : Option Value) (l3 : Option Value) (x : Nat) (st : List Value) (σ : sS), Rx E d 265 0 [l0, l1, some (.ref x), l3] st σ = Rx E d 265 1 [l0, l1, some (.ref x), l3] (.ref x :: st) σ) ∧
  (∀ (E : sV) (d : Nat) (l0 : Option Value) (l1 : Option Value) (l3 : Option Value) (st : List Value) (σ : sS), Rx E d 265 0 [l0, l1, some (.null), l3] st σ = Rx E d 265 1 [l0, l1, some (.null), l3] (.null :: st) σ) ∧
  (∀ (E : sV) (d : Nat) (l0 l1 l2 l3 : Option Value) (st : List Value) (σ : sS), Rx E d 265 1 [l0, l1, l2, l3] st σ = Rx E d 265 2 [l0, l1, l2, l3] (.int (0) :: st) σ) ∧
  (∀ (E : sV) (d : Nat) (l1 : Option Value) (l2 : Option Value) (l3 : Option Value) (x : Nat) (st : List Value) (σ : sS), Rx E d 265 2 [some (.ref x), l1, l2, l3] st σ = Rx E d 265 3 [some (.ref x), l1, l2, l3] (.ref x :: st) σ) ∧
  (∀ (E : sV) (d : Nat) (l1 : Option Value) (l2 : Option Value) (l3 : Option Value) (st : List Value) (σ : sS), Rx E d 265 2 [some (.null), l1, l2, l3] st σ = Rx E d 265 3 [some (.null), l1, l2, l3] (.null :: st) σ) ∧
  (∀ (E : sV) (d : Nat) (l0 : Option Value) (l2 : Option Value) (l3 : Option Value) (x : Int32) (st : List Value) (σ : sS), Rx E d 265 3 [l0, some (.int x), l2, l3] st σ = Rx E d 265 4 [l0, some (.int x), l2, l3] (.int x :: st) σ) ∧
  (∀ (E : sV) (d : Nat) (l0 l1 l2 l3 : Option Value) (v1 : Value) (b : Nat) (st : List Value) (σ : sS) (hc : cats st ≤ 8) (hb : isOb σ.1 b 7 = true), Rx E d 265 4 [l0, l1, l2, l3] (v1 :: .ref b :: st) σ = fin E d 265 (sRet gm265 4 [l0, l1, l2, l3] st (Mt E d 100 [.ref b, v1] σ))) ∧
  (∀ (E : sV) (d : Nat) (l0 l1 l2 l3 : Option Value) (x : Int32) (st : List Value) (σ : sS), Rx E d 265 7 [l0, l1, l2, l3] (.int x :: st) σ = Rx E d 265 8 [l0, l1, l2, l3] (.long x.toInt64 :: st) σ) ∧
  (∀ (E : sV) (d : Nat) (l0 l1 l2 l3 : Option Value) (x : Int64) (i : Int32) (a : Nat) (st : List Value) (σ : sS), Rx E d 265 8 [l0, l1, l2, l3] (.long x :: .int i :: .ref a :: st) σ = if E.1 ≤ a then (astL σ.1 a i x).bind (fun h => Rx E d 265 9 [l0, l1, l2, l3] st (h, σ.2)) else none) ∧
  (∀ (E : sV) (d : Nat) (l0 l1 l2 l3 : Option Value) (st : List Value) (σ : sS), Rx E d 265 9 [l0, l1, l2, l3] st σ = Rx E d 265 15 [l0, l1, l2, l3] st σ) ∧
  (∀ (E : sV) (d : Nat) (l0 l1 l2 l3 : Option Value) (x : Nat) (st : List Value) (σ : sS), Rx E d 265 12 [l0, l1, l2, l3] (.ref x :: st) σ = Rx E d 265 13 [l0, l1, ldrop l2, some (.ref x)] st σ) ∧
  (∀ (E : sV) (d : Nat) (l0 l1 l2 l3 : Option Value) (st : List Value) (σ : sS), Rx E d 265 12 [l0, l1, l2, l3] (.null :: st) σ = Rx E d 265 13 [l0, l1, ldrop l2, some (.null)] st σ) ∧
  (∀ (E : sV) (d : Nat) (l0 l1 l2 l3 : Option Value) (st : List Value) (σ : sS), Rx E d 265 13 [l0, l1, l2, l3] st σ = Rx E d 265 14 [l0, l1, l2, l3] (.int (1) :: st) σ) ∧
  (∀ (E : sV) (d : Nat) (l0 l1 l2 l3 : Option Value) (v : Int32) (σ : sS), Rx E d 265 14 [l0, l1, l2, l3] [.int v] σ = some (.inl (some (.int v)), σ)) ∧
  (∀ (E : sV) (d : Nat) (l0 l1 l2 l3 : Option Value) (st : List Value) (σ : sS), Rx E d 265 15 [l0, l1, l2, l3] st σ = Rx E d 265 16 [l0, l1, l2, l3] (.int (0) :: st) σ) ∧
  (∀ (E : sV) (d : Nat) (l0 l1 l2 l3 : Option Value) (v : Int32) (σ : sS), Rx E d 265 16 [l0, l1, l2, l3] [.int v] σ = some (.inl (some (.int v)), σ)) := ⟨fun _ _ _ _ _ _ _ _ => Rx_of gMT_265 d265_0 rfl,
  fun _ _ _ _ _ _ _ => Rx_of gMT_265 d265_0 rfl,
  fun _ _ _ _ _ _ _ _ => Rx_of gMT_265 d265_1 rfl,
  fun _ _ _ _ _ _ _ _ => Rx_of gMT_265 d265_2 rfl,
  fun _ _ _ _ _ _ _ => Rx_of gMT_265 d265_2 rfl,
  fun _ _ _ _ _ _ _ _ => Rx_of gMT_265 d265_3 rfl,
  fun _ _ _ _ _ _ _ _ _ _ hc hb => Rx_callW gMT_265 d265_4 rfl rfl rfl rfl hc hb,
  fun _ _ _ _ _ _ _ _ _ => Rx_of gMT_265 d265_7 rfl,
  fun _ _ _ _ _ _ _ _ _ _ _ => Rx_ast gMT_265 d265_8 rfl rfl,
  fun _ _ _ _ _ _ _ _ => Rx_goto gMT_265 d265_9 rfl (by decide),
  fun _ _ _ _ _ _ _ _ _ => Rx_of gMT_265 d265_12 rfl,
  fun _ _ _ _ _ _ _ _ => Rx_of gMT_265 d265_12 rfl,
  fun _ _ _ _ _ _ _ _ => Rx_of gMT_265 d265_13 rfl,
  fun _ _ _ _ _ _ _ _ => Rx_iretI gMT_265 d265_14 rfl rfl,
  fun _ _ _ _ _ _ _ _ => Rx_of gMT_265 d265_15 rfl,
  fun _ _ _ _ _ _ _ _ => Rx_iretI gMT_265 d265_16 rfl rfl⟩
-- QLaw_tools: QLaw_tools_0
theorem NLaw_tools (E : sV) (d : Nat) (a0 : Nat) (a1 : Int32) (a2 : Nat) (σ : sS) : Mt E (d + 1) 265 [.ref a0, .int a1, .ref a2] σ = Rx E d 265 0 [some (.ref a0), some (.int a1), some (.ref a2), none] [] σ := Mt_succ gMT_265 (Nat.le_of_ble_eq_true rfl)
theorem QLaw_holder_0 : (∀ (E : sV) (d : Nat) (l0 : Option Value) (l1 : Option Value) (l3 : Option Value) (x : Nat) (st : List Value) (σ : sS), Rx E d 266 0 [l0, l1, some (.ref x), l3] st σ = Rx E d 266 1 [l0, l1, some (.ref x), l3] (.ref x :: st) σ) ∧
  (∀ (E : sV) (d : Nat) (l0 : Option Value) (l1 : Option Value) (l3 : Option Value) (st : List Value) (σ : sS), Rx E d 266 0 [l0, l1, some (.null), l3] st σ = Rx E d 266 1 [l0, l1, some (.null), l3] (.null :: st) σ) ∧
  (∀ (E : sV) (d : Nat) (l0 l1 l2 l3 : Option Value) (st : List Value) (σ : sS), Rx E d 266 1 [l0, l1, l2, l3] st σ = Rx E d 266 2 [l0, l1, l2, l3] (.int (0) :: st) σ) ∧
  (∀ (E : sV) (d : Nat) (l1 : Option Value) (l2 : Option Value) (l3 : Option Value) (x : Nat) (st : List Value) (σ : sS), Rx E d 266 2 [some (.ref x), l1, l2, l3] st σ = Rx E d 266 3 [some (.ref x), l1, l2, l3] (.ref x :: st) σ) ∧
  (∀ (E : sV) (d : Nat) (l1 : Option Value) (l2 : Option Value) (l3 : Option Value) (st : List Value) (σ : sS), Rx E d 266 2 [some (.null), l1, l2, l3] st σ = Rx E d 266 3 [some (.null), l1, l2, l3] (.null :: st) σ) ∧
  (∀ (E : sV) (d : Nat) (l0 : Option Value) (l2 : Option Value) (l3 : Option Value) (x : Int32) (st : List Value) (σ : sS), Rx E d 266 3 [l0, some (.int x), l2, l3] st σ = Rx E d 266 4 [l0, some (.int x), l2, l3] (.int x :: st) σ) ∧
  (∀ (E : sV) (d : Nat) (l0 l1 l2 l3 : Option Value) (v1 : Value) (b : Nat) (st : List Value) (σ : sS) (hc : cats st ≤ 8) (hb : isOb σ.1 b 7 = true), Rx E d 266 4 [l0, l1, l2, l3] (v1 :: .ref b :: st) σ = fin E d 266 (sRet gm266 4 [l0, l1, l2, l3] st (Mt E d 101 [.ref b, v1] σ))) ∧
  (∀ (E : sV) (d : Nat) (l0 l1 l2 l3 : Option Value) (x : Int32) (st : List Value) (σ : sS), Rx E d 266 7 [l0, l1, l2, l3] (.int x :: st) σ = Rx E d 266 8 [l0, l1, l2, l3] (.long x.toInt64 :: st) σ) ∧
  (∀ (E : sV) (d : Nat) (l0 l1 l2 l3 : Option Value) (x : Int64) (i : Int32) (a : Nat) (st : List Value) (σ : sS), Rx E d 266 8 [l0, l1, l2, l3] (.long x :: .int i :: .ref a :: st) σ = if E.1 ≤ a then (astL σ.1 a i x).bind (fun h => Rx E d 266 9 [l0, l1, l2, l3] st (h, σ.2)) else none) ∧
  (∀ (E : sV) (d : Nat) (l0 l1 l2 l3 : Option Value) (st : List Value) (σ : sS), Rx E d 266 9 [l0, l1, l2, l3] st σ = Rx E d 266 18 [l0, l1, l2, l3] st σ) ∧
  (∀ (E : sV) (d : Nat) (l0 l1 l2 l3 : Option Value) (x : Nat) (st : List Value) (σ : sS), Rx E d 266 12 [l0, l1, l2, l3] (.ref x :: st) σ = Rx E d 266 13 [l0, l1, ldrop l2, some (.ref x)] st σ) ∧
  (∀ (E : sV) (d : Nat) (l0 l1 l2 l3 : Option Value) (st : List Value) (σ : sS), Rx E d 266 12 [l0, l1, l2, l3] (.null :: st) σ = Rx E d 266 13 [l0, l1, ldrop l2, some (.null)] st σ) ∧
  (∀ (E : sV) (d : Nat) (l0 l1 l2 l3 : Option Value) (st : List Value) (σ : sS), Rx E d 266 13 [l0, l1, l2, l3] st σ = Rx E d 266 14 [l0, l1, l2, l3] (.int (1) :: st) σ) ∧
  (∀ (E : sV) (d : Nat) (l0 l1 l2 l3 : Option Value) (v : Int32) (σ : sS), Rx E d 266 14 [l0, l1, l2, l3] [.int v] σ = some (.inl (some (.int v)), σ)) ∧
  (∀ (E : sV) (d : Nat) (l0 l1 l2 l3 : Option Value) (x : Nat) (st : List Value) (σ : sS), Rx E d 266 15 [l0, l1, l2, l3] (.ref x :: st) σ = Rx E d 266 16 [l0, l1, ldrop l2, some (.ref x)] st σ) ∧
  (∀ (E : sV) (d : Nat) (l0 l1 l2 l3 : Option Value) (st : List Value) (σ : sS), Rx E d 266 15 [l0, l1, l2, l3] (.null :: st) σ = Rx E d 266 16 [l0, l1, ldrop l2, some (.null)] st σ) ∧
  (∀ (E : sV) (d : Nat) (l0 l1 l2 l3 : Option Value) (st : List Value) (σ : sS), Rx E d 266 16 [l0, l1, l2, l3] st σ = Rx E d 266 17 [l0, l1, l2, l3] (.int (2) :: st) σ) ∧
  (∀ (E : sV) (d : Nat) (l0 l1 l2 l3 : Option Value) (v : Int32) (σ : sS), Rx E d 266 17 [l0, l1, l2, l3] [.int v] σ = some (.inl (some (.int v)), σ)) ∧
  (∀ (E : sV) (d : Nat) (l0 l1 l2 l3 : Option Value) (st : List Value) (σ : sS), Rx E d 266 18 [l0, l1, l2, l3] st σ = Rx E d 266 19 [l0, l1, l2, l3] (.int (0) :: st) σ) ∧
  (∀ (E : sV) (d : Nat) (l0 l1 l2 l3 : Option Value) (v : Int32) (σ : sS), Rx E d 266 19 [l0, l1, l2, l3] [.int v] σ = some (.inl (some (.int v)), σ)) := ⟨fun _ _ _ _ _ _ _ _ => Rx_of gMT_266 d266_0 rfl,
  fun _ _ _ _ _ _ _ => Rx_of gMT_266 d266_0 rfl,
  fun _ _ _ _ _ _ _ _ => Rx_of gMT_266 d266_1 rfl,
  fun _ _ _ _ _ _ _ _ => Rx_of gMT_266 d266_2 rfl,
  fun _ _ _ _ _ _ _ => Rx_of gMT_266 d266_2 rfl,
  fun _ _ _ _ _ _ _ _ => Rx_of gMT_266 d266_3 rfl,
  fun _ _ _ _ _ _ _ _ _ _ hc hb => Rx_callW gMT_266 d266_4 rfl rfl rfl rfl hc hb,
  fun _ _ _ _ _ _ _ _ _ => Rx_of gMT_266 d266_7 rfl,
  fun _ _ _ _ _ _ _ _ _ _ _ => Rx_ast gMT_266 d266_8 rfl rfl,
  fun _ _ _ _ _ _ _ _ => Rx_goto gMT_266 d266_9 rfl (by decide),
  fun _ _ _ _ _ _ _ _ _ => Rx_of gMT_266 d266_12 rfl,
  fun _ _ _ _ _ _ _ _ => Rx_of gMT_266 d266_12 rfl,
  fun _ _ _ _ _ _ _ _ => Rx_of gMT_266 d266_13 rfl,
  fun _ _ _ _ _ _ _ _ => Rx_iretI gMT_266 d266_14 rfl rfl,
  fun _ _ _ _ _ _ _ _ _ => Rx_of gMT_266 d266_15 rfl,
  fun _ _ _ _ _ _ _ _ => Rx_of gMT_266 d266_15 rfl,
  fun _ _ _ _ _ _ _ _ => Rx_of gMT_266 d266_16 rfl,
  fun _ _ _ _ _ _ _ _ => Rx_iretI gMT_266 d266_17 rfl rfl,
  fun _ _ _ _ _ _ _ _ => Rx_of gMT_266 d266_18 rfl,
  fun _ _ _ _ _ _ _ _ => Rx_iretI gMT_266 d266_19 rfl rfl⟩
-- QLaw_holder: QLaw_holder_0
theorem NLaw_holder (E : sV) (d : Nat) (a0 : Nat) (a1 : Int32) (a2 : Nat) (σ : sS) : Mt E (d + 1) 266 [.ref a0, .int a1, .ref a2] σ = Rx E d 266 0 [some (.ref a0), some (.int a1), some (.ref a2), none] [] σ := Mt_succ gMT_266 (Nat.le_of_ble_eq_true rfl)
theorem QLaw_barrowX_0 : (∀ (E : sV) (d : Nat) (l0 : Option Value) (l1 : Option Value) (l3 : Option Value) (x : Nat) (st : List Value) (σ : sS), Rx E d 267 0 [l0, l1, some (.ref x), l3] st σ = Rx E d 267 1 [l0, l1, some (.ref x), l3] (.ref x :: st) σ) ∧
  (∀ (E : sV) (d : Nat) (l0 : Option Value) (l1 : Option Value) (l3 : Option Value) (st : List Value) (σ : sS), Rx E d 267 0 [l0, l1, some (.null), l3] st σ = Rx E d 267 1 [l0, l1, some (.null), l3] (.null :: st) σ) ∧
  (∀ (E : sV) (d : Nat) (l0 l1 l2 l3 : Option Value) (st : List Value) (σ : sS), Rx E d 267 1 [l0, l1, l2, l3] st σ = Rx E d 267 2 [l0, l1, l2, l3] (.int (0) :: st) σ) ∧
  (∀ (E : sV) (d : Nat) (l1 : Option Value) (l2 : Option Value) (l3 : Option Value) (x : Nat) (st : List Value) (σ : sS), Rx E d 267 2 [some (.ref x), l1, l2, l3] st σ = Rx E d 267 3 [some (.ref x), l1, l2, l3] (.ref x :: st) σ) ∧
  (∀ (E : sV) (d : Nat) (l1 : Option Value) (l2 : Option Value) (l3 : Option Value) (st : List Value) (σ : sS), Rx E d 267 2 [some (.null), l1, l2, l3] st σ = Rx E d 267 3 [some (.null), l1, l2, l3] (.null :: st) σ) ∧
  (∀ (E : sV) (d : Nat) (l0 : Option Value) (l2 : Option Value) (l3 : Option Value) (x : Int32) (st : List Value) (σ : sS), Rx E d 267 3 [l0, some (.int x), l2, l3] st σ = Rx E d 267 4 [l0, some (.int x), l2, l3] (.int x :: st) σ) ∧
  (∀ (E : sV) (d : Nat) (l0 l1 l2 l3 : Option Value) (v1 : Value) (b : Nat) (st : List Value) (σ : sS) (hc : cats st ≤ 8) (hb : isOb σ.1 b 7 = true), Rx E d 267 4 [l0, l1, l2, l3] (v1 :: .ref b :: st) σ = fin E d 267 (sRet gm267 4 [l0, l1, l2, l3] st (Mt E d 102 [.ref b, v1] σ))) ∧
  (∀ (E : sV) (d : Nat) (l0 l1 l2 l3 : Option Value) (x : Int32) (st : List Value) (σ : sS), Rx E d 267 7 [l0, l1, l2, l3] (.int x :: st) σ = Rx E d 267 8 [l0, l1, l2, l3] (.long x.toInt64 :: st) σ) ∧
  (∀ (E : sV) (d : Nat) (l0 l1 l2 l3 : Option Value) (x : Int64) (i : Int32) (a : Nat) (st : List Value) (σ : sS), Rx E d 267 8 [l0, l1, l2, l3] (.long x :: .int i :: .ref a :: st) σ = if E.1 ≤ a then (astL σ.1 a i x).bind (fun h => Rx E d 267 9 [l0, l1, l2, l3] st (h, σ.2)) else none) ∧
  (∀ (E : sV) (d : Nat) (l0 l1 l2 l3 : Option Value) (st : List Value) (σ : sS), Rx E d 267 9 [l0, l1, l2, l3] st σ = Rx E d 267 15 [l0, l1, l2, l3] st σ) ∧
  (∀ (E : sV) (d : Nat) (l0 l1 l2 l3 : Option Value) (x : Nat) (st : List Value) (σ : sS), Rx E d 267 12 [l0, l1, l2, l3] (.ref x :: st) σ = Rx E d 267 13 [l0, l1, ldrop l2, some (.ref x)] st σ) ∧
  (∀ (E : sV) (d : Nat) (l0 l1 l2 l3 : Option Value) (st : List Value) (σ : sS), Rx E d 267 12 [l0, l1, l2, l3] (.null :: st) σ = Rx E d 267 13 [l0, l1, ldrop l2, some (.null)] st σ) ∧
  (∀ (E : sV) (d : Nat) (l0 l1 l2 l3 : Option Value) (st : List Value) (σ : sS), Rx E d 267 13 [l0, l1, l2, l3] st σ = Rx E d 267 14 [l0, l1, l2, l3] (.int (1) :: st) σ) ∧
  (∀ (E : sV) (d : Nat) (l0 l1 l2 l3 : Option Value) (v : Int32) (σ : sS), Rx E d 267 14 [l0, l1, l2, l3] [.int v] σ = some (.inl (some (.int v)), σ)) ∧
  (∀ (E : sV) (d : Nat) (l0 l1 l2 l3 : Option Value) (st : List Value) (σ : sS), Rx E d 267 15 [l0, l1, l2, l3] st σ = Rx E d 267 16 [l0, l1, l2, l3] (.int (0) :: st) σ) ∧
  (∀ (E : sV) (d : Nat) (l0 l1 l2 l3 : Option Value) (v : Int32) (σ : sS), Rx E d 267 16 [l0, l1, l2, l3] [.int v] σ = some (.inl (some (.int v)), σ)) := ⟨fun _ _ _ _ _ _ _ _ => Rx_of gMT_267 d267_0 rfl,
  fun _ _ _ _ _ _ _ => Rx_of gMT_267 d267_0 rfl,
  fun _ _ _ _ _ _ _ _ => Rx_of gMT_267 d267_1 rfl,
  fun _ _ _ _ _ _ _ _ => Rx_of gMT_267 d267_2 rfl,
  fun _ _ _ _ _ _ _ => Rx_of gMT_267 d267_2 rfl,
  fun _ _ _ _ _ _ _ _ => Rx_of gMT_267 d267_3 rfl,
  fun _ _ _ _ _ _ _ _ _ _ hc hb => Rx_callW gMT_267 d267_4 rfl rfl rfl rfl hc hb,
  fun _ _ _ _ _ _ _ _ _ => Rx_of gMT_267 d267_7 rfl,
  fun _ _ _ _ _ _ _ _ _ _ _ => Rx_ast gMT_267 d267_8 rfl rfl,
  fun _ _ _ _ _ _ _ _ => Rx_goto gMT_267 d267_9 rfl (by decide),
  fun _ _ _ _ _ _ _ _ _ => Rx_of gMT_267 d267_12 rfl,
  fun _ _ _ _ _ _ _ _ => Rx_of gMT_267 d267_12 rfl,
  fun _ _ _ _ _ _ _ _ => Rx_of gMT_267 d267_13 rfl,
  fun _ _ _ _ _ _ _ _ => Rx_iretI gMT_267 d267_14 rfl rfl,
  fun _ _ _ _ _ _ _ _ => Rx_of gMT_267 d267_15 rfl,
  fun _ _ _ _ _ _ _ _ => Rx_iretI gMT_267 d267_16 rfl rfl⟩
-- QLaw_barrowX: QLaw_barrowX_0
theorem NLaw_barrowX (E : sV) (d : Nat) (a0 : Nat) (a1 : Int32) (a2 : Nat) (σ : sS) : Mt E (d + 1) 267 [.ref a0, .int a1, .ref a2] σ = Rx E d 267 0 [some (.ref a0), some (.int a1), some (.ref a2), none] [] σ := Mt_succ gMT_267 (Nat.le_of_ble_eq_true rfl)
theorem QLaw_barrowY_0 : (∀ (E : sV) (d : Nat) (l0 : Option Value) (l1 : Option Value) (l3 : Option Value) (x : Nat) (st : List Value) (σ : sS), Rx E d 268 0 [l0, l1, some (.ref x), l3] st σ = Rx E d 268 1 [l0, l1, some (.ref x), l3] (.ref x :: st) σ) ∧
  (∀ (E : sV) (d : Nat) (l0 : Option Value) (l1 : Option Value) (l3 : Option Value) (st : List Value) (σ : sS), Rx E d 268 0 [l0, l1, some (.null), l3] st σ = Rx E d 268 1 [l0, l1, some (.null), l3] (.null :: st) σ) ∧
  (∀ (E : sV) (d : Nat) (l0 l1 l2 l3 : Option Value) (st : List Value) (σ : sS), Rx E d 268 1 [l0, l1, l2, l3] st σ = Rx E d 268 2 [l0, l1, l2, l3] (.int (0) :: st) σ) ∧
  (∀ (E : sV) (d : Nat) (l1 : Option Value) (l2 : Option Value) (l3 : Option Value) (x : Nat) (st : List Value) (σ : sS), Rx E d 268 2 [some (.ref x), l1, l2, l3] st σ = Rx E d 268 3 [some (.ref x), l1, l2, l3] (.ref x :: st) σ) ∧
  (∀ (E : sV) (d : Nat) (l1 : Option Value) (l2 : Option Value) (l3 : Option Value) (st : List Value) (σ : sS), Rx E d 268 2 [some (.null), l1, l2, l3] st σ = Rx E d 268 3 [some (.null), l1, l2, l3] (.null :: st) σ) ∧
  (∀ (E : sV) (d : Nat) (l0 : Option Value) (l2 : Option Value) (l3 : Option Value) (x : Int32) (st : List Value) (σ : sS), Rx E d 268 3 [l0, some (.int x), l2, l3] st σ = Rx E d 268 4 [l0, some (.int x), l2, l3] (.int x :: st) σ) ∧
  (∀ (E : sV) (d : Nat) (l0 l1 l2 l3 : Option Value) (v1 : Value) (b : Nat) (st : List Value) (σ : sS) (hc : cats st ≤ 8) (hb : isOb σ.1 b 7 = true), Rx E d 268 4 [l0, l1, l2, l3] (v1 :: .ref b :: st) σ = fin E d 268 (sRet gm268 4 [l0, l1, l2, l3] st (Mt E d 103 [.ref b, v1] σ))) ∧
  (∀ (E : sV) (d : Nat) (l0 l1 l2 l3 : Option Value) (x : Int32) (st : List Value) (σ : sS), Rx E d 268 7 [l0, l1, l2, l3] (.int x :: st) σ = Rx E d 268 8 [l0, l1, l2, l3] (.long x.toInt64 :: st) σ) ∧
  (∀ (E : sV) (d : Nat) (l0 l1 l2 l3 : Option Value) (x : Int64) (i : Int32) (a : Nat) (st : List Value) (σ : sS), Rx E d 268 8 [l0, l1, l2, l3] (.long x :: .int i :: .ref a :: st) σ = if E.1 ≤ a then (astL σ.1 a i x).bind (fun h => Rx E d 268 9 [l0, l1, l2, l3] st (h, σ.2)) else none) ∧
  (∀ (E : sV) (d : Nat) (l0 l1 l2 l3 : Option Value) (st : List Value) (σ : sS), Rx E d 268 9 [l0, l1, l2, l3] st σ = Rx E d 268 15 [l0, l1, l2, l3] st σ) ∧
  (∀ (E : sV) (d : Nat) (l0 l1 l2 l3 : Option Value) (x : Nat) (st : List Value) (σ : sS), Rx E d 268 12 [l0, l1, l2, l3] (.ref x :: st) σ = Rx E d 268 13 [l0, l1, ldrop l2, some (.ref x)] st σ) ∧
  (∀ (E : sV) (d : Nat) (l0 l1 l2 l3 : Option Value) (st : List Value) (σ : sS), Rx E d 268 12 [l0, l1, l2, l3] (.null :: st) σ = Rx E d 268 13 [l0, l1, ldrop l2, some (.null)] st σ) ∧
  (∀ (E : sV) (d : Nat) (l0 l1 l2 l3 : Option Value) (st : List Value) (σ : sS), Rx E d 268 13 [l0, l1, l2, l3] st σ = Rx E d 268 14 [l0, l1, l2, l3] (.int (1) :: st) σ) ∧
  (∀ (E : sV) (d : Nat) (l0 l1 l2 l3 : Option Value) (v : Int32) (σ : sS), Rx E d 268 14 [l0, l1, l2, l3] [.int v] σ = some (.inl (some (.int v)), σ)) ∧
  (∀ (E : sV) (d : Nat) (l0 l1 l2 l3 : Option Value) (st : List Value) (σ : sS), Rx E d 268 15 [l0, l1, l2, l3] st σ = Rx E d 268 16 [l0, l1, l2, l3] (.int (0) :: st) σ) ∧
  (∀ (E : sV) (d : Nat) (l0 l1 l2 l3 : Option Value) (v : Int32) (σ : sS), Rx E d 268 16 [l0, l1, l2, l3] [.int v] σ = some (.inl (some (.int v)), σ)) := ⟨fun _ _ _ _ _ _ _ _ => Rx_of gMT_268 d268_0 rfl,
  fun _ _ _ _ _ _ _ => Rx_of gMT_268 d268_0 rfl,
  fun _ _ _ _ _ _ _ _ => Rx_of gMT_268 d268_1 rfl,
  fun _ _ _ _ _ _ _ _ => Rx_of gMT_268 d268_2 rfl,
  fun _ _ _ _ _ _ _ => Rx_of gMT_268 d268_2 rfl,
  fun _ _ _ _ _ _ _ _ => Rx_of gMT_268 d268_3 rfl,
  fun _ _ _ _ _ _ _ _ _ _ hc hb => Rx_callW gMT_268 d268_4 rfl rfl rfl rfl hc hb,
  fun _ _ _ _ _ _ _ _ _ => Rx_of gMT_268 d268_7 rfl,
  fun _ _ _ _ _ _ _ _ _ _ _ => Rx_ast gMT_268 d268_8 rfl rfl,
  fun _ _ _ _ _ _ _ _ => Rx_goto gMT_268 d268_9 rfl (by decide),
  fun _ _ _ _ _ _ _ _ _ => Rx_of gMT_268 d268_12 rfl,
  fun _ _ _ _ _ _ _ _ => Rx_of gMT_268 d268_12 rfl,
  fun _ _ _ _ _ _ _ _ => Rx_of gMT_268 d268_13 rfl,
  fun _ _ _ _ _ _ _ _ => Rx_iretI gMT_268 d268_14 rfl rfl,
  fun _ _ _ _ _ _ _ _ => Rx_of gMT_268 d268_15 rfl,
  fun _ _ _ _ _ _ _ _ => Rx_iretI gMT_268 d268_16 rfl rfl⟩
-- QLaw_barrowY: QLaw_barrowY_0
theorem NLaw_barrowY (E : sV) (d : Nat) (a0 : Nat) (a1 : Int32) (a2 : Nat) (σ : sS) : Mt E (d + 1) 268 [.ref a0, .int a1, .ref a2] σ = Rx E d 268 0 [some (.ref a0), some (.int a1), some (.ref a2), none] [] σ := Mt_succ gMT_268 (Nat.le_of_ble_eq_true rfl)
theorem QLaw_clock_0 : (∀ (E : sV) (d : Nat) (l0 : Option Value) (l1 : Option Value) (l3 : Option Value) (x : Nat) (st : List Value) (σ : sS), Rx E d 269 0 [l0, l1, some (.ref x), l3] st σ = Rx E d 269 1 [l0, l1, some (.ref x), l3] (.ref x :: st) σ) ∧
  (∀ (E : sV) (d : Nat) (l0 : Option Value) (l1 : Option Value) (l3 : Option Value) (st : List Value) (σ : sS), Rx E d 269 0 [l0, l1, some (.null), l3] st σ = Rx E d 269 1 [l0, l1, some (.null), l3] (.null :: st) σ) ∧
  (∀ (E : sV) (d : Nat) (l0 l1 l2 l3 : Option Value) (st : List Value) (σ : sS), Rx E d 269 1 [l0, l1, l2, l3] st σ = Rx E d 269 2 [l0, l1, l2, l3] (.int (0) :: st) σ) ∧
  (∀ (E : sV) (d : Nat) (l1 : Option Value) (l2 : Option Value) (l3 : Option Value) (x : Nat) (st : List Value) (σ : sS), Rx E d 269 2 [some (.ref x), l1, l2, l3] st σ = Rx E d 269 3 [some (.ref x), l1, l2, l3] (.ref x :: st) σ) ∧
  (∀ (E : sV) (d : Nat) (l1 : Option Value) (l2 : Option Value) (l3 : Option Value) (st : List Value) (σ : sS), Rx E d 269 2 [some (.null), l1, l2, l3] st σ = Rx E d 269 3 [some (.null), l1, l2, l3] (.null :: st) σ) ∧
  (∀ (E : sV) (d : Nat) (l0 : Option Value) (l2 : Option Value) (l3 : Option Value) (x : Int32) (st : List Value) (σ : sS), Rx E d 269 3 [l0, some (.int x), l2, l3] st σ = Rx E d 269 4 [l0, some (.int x), l2, l3] (.int x :: st) σ) ∧
  (∀ (E : sV) (d : Nat) (l0 l1 l2 l3 : Option Value) (v1 : Value) (b : Nat) (st : List Value) (σ : sS) (hc : cats st ≤ 8) (hb : isOb σ.1 b 7 = true), Rx E d 269 4 [l0, l1, l2, l3] (v1 :: .ref b :: st) σ = fin E d 269 (sRet gm269 4 [l0, l1, l2, l3] st (Mt E d 104 [.ref b, v1] σ))) ∧
  (∀ (E : sV) (d : Nat) (l0 l1 l2 l3 : Option Value) (x : Int32) (st : List Value) (σ : sS), Rx E d 269 7 [l0, l1, l2, l3] (.int x :: st) σ = Rx E d 269 8 [l0, l1, l2, l3] (.long x.toInt64 :: st) σ) ∧
  (∀ (E : sV) (d : Nat) (l0 l1 l2 l3 : Option Value) (x : Int64) (i : Int32) (a : Nat) (st : List Value) (σ : sS), Rx E d 269 8 [l0, l1, l2, l3] (.long x :: .int i :: .ref a :: st) σ = if E.1 ≤ a then (astL σ.1 a i x).bind (fun h => Rx E d 269 9 [l0, l1, l2, l3] st (h, σ.2)) else none) ∧
  (∀ (E : sV) (d : Nat) (l0 l1 l2 l3 : Option Value) (st : List Value) (σ : sS), Rx E d 269 9 [l0, l1, l2, l3] st σ = Rx E d 269 15 [l0, l1, l2, l3] st σ) ∧
  (∀ (E : sV) (d : Nat) (l0 l1 l2 l3 : Option Value) (x : Nat) (st : List Value) (σ : sS), Rx E d 269 12 [l0, l1, l2, l3] (.ref x :: st) σ = Rx E d 269 13 [l0, l1, ldrop l2, some (.ref x)] st σ) ∧
  (∀ (E : sV) (d : Nat) (l0 l1 l2 l3 : Option Value) (st : List Value) (σ : sS), Rx E d 269 12 [l0, l1, l2, l3] (.null :: st) σ = Rx E d 269 13 [l0, l1, ldrop l2, some (.null)] st σ) ∧
  (∀ (E : sV) (d : Nat) (l0 l1 l2 l3 : Option Value) (st : List Value) (σ : sS), Rx E d 269 13 [l0, l1, l2, l3] st σ = Rx E d 269 14 [l0, l1, l2, l3] (.int (1) :: st) σ) ∧
  (∀ (E : sV) (d : Nat) (l0 l1 l2 l3 : Option Value) (v : Int32) (σ : sS), Rx E d 269 14 [l0, l1, l2, l3] [.int v] σ = some (.inl (some (.int v)), σ)) ∧
  (∀ (E : sV) (d : Nat) (l0 l1 l2 l3 : Option Value) (st : List Value) (σ : sS), Rx E d 269 15 [l0, l1, l2, l3] st σ = Rx E d 269 16 [l0, l1, l2, l3] (.int (0) :: st) σ) ∧
  (∀ (E : sV) (d : Nat) (l0 l1 l2 l3 : Option Value) (v : Int32) (σ : sS), Rx E d 269 16 [l0, l1, l2, l3] [.int v] σ = some (.inl (some (.int v)), σ)) := ⟨fun _ _ _ _ _ _ _ _ => Rx_of gMT_269 d269_0 rfl,
  fun _ _ _ _ _ _ _ => Rx_of gMT_269 d269_0 rfl,
  fun _ _ _ _ _ _ _ _ => Rx_of gMT_269 d269_1 rfl,
  fun _ _ _ _ _ _ _ _ => Rx_of gMT_269 d269_2 rfl,
  fun _ _ _ _ _ _ _ => Rx_of gMT_269 d269_2 rfl,
  fun _ _ _ _ _ _ _ _ => Rx_of gMT_269 d269_3 rfl,
  fun _ _ _ _ _ _ _ _ _ _ hc hb => Rx_callW gMT_269 d269_4 rfl rfl rfl rfl hc hb,
  fun _ _ _ _ _ _ _ _ _ => Rx_of gMT_269 d269_7 rfl,
  fun _ _ _ _ _ _ _ _ _ _ _ => Rx_ast gMT_269 d269_8 rfl rfl,
  fun _ _ _ _ _ _ _ _ => Rx_goto gMT_269 d269_9 rfl (by decide),
  fun _ _ _ _ _ _ _ _ _ => Rx_of gMT_269 d269_12 rfl,
  fun _ _ _ _ _ _ _ _ => Rx_of gMT_269 d269_12 rfl,
  fun _ _ _ _ _ _ _ _ => Rx_of gMT_269 d269_13 rfl,
  fun _ _ _ _ _ _ _ _ => Rx_iretI gMT_269 d269_14 rfl rfl,
  fun _ _ _ _ _ _ _ _ => Rx_of gMT_269 d269_15 rfl,
  fun _ _ _ _ _ _ _ _ => Rx_iretI gMT_269 d269_16 rfl rfl⟩
-- QLaw_clock: QLaw_clock_0
theorem NLaw_clock (E : sV) (d : Nat) (a0 : Nat) (a1 : Int32) (a2 : Nat) (σ : sS) : Mt E (d + 1) 269 [.ref a0, .int a1, .ref a2] σ = Rx E d 269 0 [some (.ref a0), some (.int a1), some (.ref a2), none] [] σ := Mt_succ gMT_269 (Nat.le_of_ble_eq_true rfl)
theorem QLaw_isHome_0 : (∀ (E : sV) (d : Nat) (l0 : Option Value) (l1 : Option Value) (l3 : Option Value) (x : Nat) (st : List Value) (σ : sS), Rx E d 270 0 [l0, l1, some (.ref x), l3] st σ = Rx E d 270 1 [l0, l1, some (.ref x), l3] (.ref x :: st) σ) ∧
  (∀ (E : sV) (d : Nat) (l0 : Option Value) (l1 : Option Value) (l3 : Option Value) (st : List Value) (σ : sS), Rx E d 270 0 [l0, l1, some (.null), l3] st σ = Rx E d 270 1 [l0, l1, some (.null), l3] (.null :: st) σ) ∧
  (∀ (E : sV) (d : Nat) (l0 l1 l2 l3 : Option Value) (st : List Value) (σ : sS), Rx E d 270 1 [l0, l1, l2, l3] st σ = Rx E d 270 2 [l0, l1, l2, l3] (.int (0) :: st) σ) ∧
  (∀ (E : sV) (d : Nat) (l1 : Option Value) (l2 : Option Value) (l3 : Option Value) (x : Nat) (st : List Value) (σ : sS), Rx E d 270 2 [some (.ref x), l1, l2, l3] st σ = Rx E d 270 3 [some (.ref x), l1, l2, l3] (.ref x :: st) σ) ∧
  (∀ (E : sV) (d : Nat) (l1 : Option Value) (l2 : Option Value) (l3 : Option Value) (st : List Value) (σ : sS), Rx E d 270 2 [some (.null), l1, l2, l3] st σ = Rx E d 270 3 [some (.null), l1, l2, l3] (.null :: st) σ) ∧
  (∀ (E : sV) (d : Nat) (l0 : Option Value) (l2 : Option Value) (l3 : Option Value) (x : Int32) (st : List Value) (σ : sS), Rx E d 270 3 [l0, some (.int x), l2, l3] st σ = Rx E d 270 4 [l0, some (.int x), l2, l3] (.int x :: st) σ) ∧
  (∀ (E : sV) (d : Nat) (l0 l1 l2 l3 : Option Value) (v1 : Value) (b : Nat) (st : List Value) (σ : sS) (hc : cats st ≤ 8) (hb : isOb σ.1 b 7 = true), Rx E d 270 4 [l0, l1, l2, l3] (v1 :: .ref b :: st) σ = fin E d 270 (sRet gm270 4 [l0, l1, l2, l3] st (Mt E d 105 [.ref b, v1] σ))) ∧
  (∀ (E : sV) (d : Nat) (l0 l1 l2 l3 : Option Value) (x : Int32) (st : List Value) (σ : sS), Rx E d 270 7 [l0, l1, l2, l3] (.int x :: st) σ = if x = 0 then Rx E d 270 14 [l0, l1, l2, l3] st σ else Rx E d 270 10 [l0, l1, l2, l3] st σ) ∧
  (∀ (E : sV) (d : Nat) (l0 l1 l2 l3 : Option Value) (st : List Value) (σ : sS), Rx E d 270 10 [l0, l1, l2, l3] st σ = Rx E d 270 11 [l0, l1, l2, l3] (.long 1 :: st) σ) ∧
  (∀ (E : sV) (d : Nat) (l0 l1 l2 l3 : Option Value) (st : List Value) (σ : sS), Rx E d 270 11 [l0, l1, l2, l3] st σ = Rx E d 270 15 [l0, l1, l2, l3] st σ) ∧
  (∀ (E : sV) (d : Nat) (l0 l1 l2 l3 : Option Value) (st : List Value) (σ : sS), Rx E d 270 14 [l0, l1, l2, l3] st σ = Rx E d 270 15 [l0, l1, l2, l3] (.long 0 :: st) σ) ∧
  (∀ (E : sV) (d : Nat) (l0 l1 l2 l3 : Option Value) (x : Int64) (i : Int32) (a : Nat) (st : List Value) (σ : sS), Rx E d 270 15 [l0, l1, l2, l3] (.long x :: .int i :: .ref a :: st) σ = if E.1 ≤ a then (astL σ.1 a i x).bind (fun h => Rx E d 270 16 [l0, l1, l2, l3] st (h, σ.2)) else none) ∧
  (∀ (E : sV) (d : Nat) (l0 l1 l2 l3 : Option Value) (st : List Value) (σ : sS), Rx E d 270 16 [l0, l1, l2, l3] st σ = Rx E d 270 22 [l0, l1, l2, l3] st σ) ∧
  (∀ (E : sV) (d : Nat) (l0 l1 l2 l3 : Option Value) (x : Nat) (st : List Value) (σ : sS), Rx E d 270 19 [l0, l1, l2, l3] (.ref x :: st) σ = Rx E d 270 20 [l0, l1, ldrop l2, some (.ref x)] st σ) ∧
  (∀ (E : sV) (d : Nat) (l0 l1 l2 l3 : Option Value) (st : List Value) (σ : sS), Rx E d 270 19 [l0, l1, l2, l3] (.null :: st) σ = Rx E d 270 20 [l0, l1, ldrop l2, some (.null)] st σ) ∧
  (∀ (E : sV) (d : Nat) (l0 l1 l2 l3 : Option Value) (st : List Value) (σ : sS), Rx E d 270 20 [l0, l1, l2, l3] st σ = Rx E d 270 21 [l0, l1, l2, l3] (.int (1) :: st) σ) ∧
  (∀ (E : sV) (d : Nat) (l0 l1 l2 l3 : Option Value) (v : Int32) (σ : sS), Rx E d 270 21 [l0, l1, l2, l3] [.int v] σ = some (.inl (some (.int v)), σ)) ∧
  (∀ (E : sV) (d : Nat) (l0 l1 l2 l3 : Option Value) (st : List Value) (σ : sS), Rx E d 270 22 [l0, l1, l2, l3] st σ = Rx E d 270 23 [l0, l1, l2, l3] (.int (0) :: st) σ) ∧
  (∀ (E : sV) (d : Nat) (l0 l1 l2 l3 : Option Value) (v : Int32) (σ : sS), Rx E d 270 23 [l0, l1, l2, l3] [.int v] σ = some (.inl (some (.int v)), σ)) := ⟨fun _ _ _ _ _ _ _ _ => Rx_of gMT_270 d270_0 rfl,
  fun _ _ _ _ _ _ _ => Rx_of gMT_270 d270_0 rfl,
  fun _ _ _ _ _ _ _ _ => Rx_of gMT_270 d270_1 rfl,
  fun _ _ _ _ _ _ _ _ => Rx_of gMT_270 d270_2 rfl,
  fun _ _ _ _ _ _ _ => Rx_of gMT_270 d270_2 rfl,
  fun _ _ _ _ _ _ _ _ => Rx_of gMT_270 d270_3 rfl,
  fun _ _ _ _ _ _ _ _ _ _ hc hb => Rx_callW gMT_270 d270_4 rfl rfl rfl rfl hc hb,
  fun _ _ _ _ _ _ _ _ _ => Rx_if gMT_270 d270_7 rfl rfl (by decide),
  fun _ _ _ _ _ _ _ _ => Rx_of gMT_270 d270_10 rfl,
  fun _ _ _ _ _ _ _ _ => Rx_goto gMT_270 d270_11 rfl (by decide),
  fun _ _ _ _ _ _ _ _ => Rx_of gMT_270 d270_14 rfl,
  fun _ _ _ _ _ _ _ _ _ _ _ => Rx_ast gMT_270 d270_15 rfl rfl,
  fun _ _ _ _ _ _ _ _ => Rx_goto gMT_270 d270_16 rfl (by decide),
  fun _ _ _ _ _ _ _ _ _ => Rx_of gMT_270 d270_19 rfl,
  fun _ _ _ _ _ _ _ _ => Rx_of gMT_270 d270_19 rfl,
  fun _ _ _ _ _ _ _ _ => Rx_of gMT_270 d270_20 rfl,
  fun _ _ _ _ _ _ _ _ => Rx_iretI gMT_270 d270_21 rfl rfl,
  fun _ _ _ _ _ _ _ _ => Rx_of gMT_270 d270_22 rfl,
  fun _ _ _ _ _ _ _ _ => Rx_iretI gMT_270 d270_23 rfl rfl⟩
-- QLaw_isHome: QLaw_isHome_0
theorem NLaw_isHome (E : sV) (d : Nat) (a0 : Nat) (a1 : Int32) (a2 : Nat) (σ : sS) : Mt E (d + 1) 270 [.ref a0, .int a1, .ref a2] σ = Rx E d 270 0 [some (.ref a0), some (.int a1), some (.ref a2), none] [] σ := Mt_succ gMT_270 (Nat.le_of_ble_eq_true rfl)
theorem QLaw_assigned_0 : (∀ (E : sV) (d : Nat) (l0 : Option Value) (l1 : Option Value) (l3 : Option Value) (x : Nat) (st : List Value) (σ : sS), Rx E d 271 0 [l0, l1, some (.ref x), l3] st σ = Rx E d 271 1 [l0, l1, some (.ref x), l3] (.ref x :: st) σ) ∧
  (∀ (E : sV) (d : Nat) (l0 : Option Value) (l1 : Option Value) (l3 : Option Value) (st : List Value) (σ : sS), Rx E d 271 0 [l0, l1, some (.null), l3] st σ = Rx E d 271 1 [l0, l1, some (.null), l3] (.null :: st) σ) ∧
  (∀ (E : sV) (d : Nat) (l0 l1 l2 l3 : Option Value) (st : List Value) (σ : sS), Rx E d 271 1 [l0, l1, l2, l3] st σ = Rx E d 271 2 [l0, l1, l2, l3] (.int (0) :: st) σ) ∧
  (∀ (E : sV) (d : Nat) (l1 : Option Value) (l2 : Option Value) (l3 : Option Value) (x : Nat) (st : List Value) (σ : sS), Rx E d 271 2 [some (.ref x), l1, l2, l3] st σ = Rx E d 271 3 [some (.ref x), l1, l2, l3] (.ref x :: st) σ) ∧
  (∀ (E : sV) (d : Nat) (l1 : Option Value) (l2 : Option Value) (l3 : Option Value) (st : List Value) (σ : sS), Rx E d 271 2 [some (.null), l1, l2, l3] st σ = Rx E d 271 3 [some (.null), l1, l2, l3] (.null :: st) σ) ∧
  (∀ (E : sV) (d : Nat) (l0 : Option Value) (l2 : Option Value) (l3 : Option Value) (x : Int32) (st : List Value) (σ : sS), Rx E d 271 3 [l0, some (.int x), l2, l3] st σ = Rx E d 271 4 [l0, some (.int x), l2, l3] (.int x :: st) σ) ∧
  (∀ (E : sV) (d : Nat) (l0 l1 l2 l3 : Option Value) (v1 : Value) (b : Nat) (st : List Value) (σ : sS) (hc : cats st ≤ 8) (hb : isOb σ.1 b 7 = true), Rx E d 271 4 [l0, l1, l2, l3] (v1 :: .ref b :: st) σ = fin E d 271 (sRet gm271 4 [l0, l1, l2, l3] st (Mt E d 106 [.ref b, v1] σ))) ∧
  (∀ (E : sV) (d : Nat) (l0 l1 l2 l3 : Option Value) (x : Int32) (st : List Value) (σ : sS), Rx E d 271 7 [l0, l1, l2, l3] (.int x :: st) σ = Rx E d 271 8 [l0, l1, l2, l3] (.long x.toInt64 :: st) σ) ∧
  (∀ (E : sV) (d : Nat) (l0 l1 l2 l3 : Option Value) (x : Int64) (i : Int32) (a : Nat) (st : List Value) (σ : sS), Rx E d 271 8 [l0, l1, l2, l3] (.long x :: .int i :: .ref a :: st) σ = if E.1 ≤ a then (astL σ.1 a i x).bind (fun h => Rx E d 271 9 [l0, l1, l2, l3] st (h, σ.2)) else none) ∧
  (∀ (E : sV) (d : Nat) (l0 l1 l2 l3 : Option Value) (st : List Value) (σ : sS), Rx E d 271 9 [l0, l1, l2, l3] st σ = Rx E d 271 15 [l0, l1, l2, l3] st σ) ∧
  (∀ (E : sV) (d : Nat) (l0 l1 l2 l3 : Option Value) (x : Nat) (st : List Value) (σ : sS), Rx E d 271 12 [l0, l1, l2, l3] (.ref x :: st) σ = Rx E d 271 13 [l0, l1, ldrop l2, some (.ref x)] st σ) ∧
  (∀ (E : sV) (d : Nat) (l0 l1 l2 l3 : Option Value) (st : List Value) (σ : sS), Rx E d 271 12 [l0, l1, l2, l3] (.null :: st) σ = Rx E d 271 13 [l0, l1, ldrop l2, some (.null)] st σ) ∧
  (∀ (E : sV) (d : Nat) (l0 l1 l2 l3 : Option Value) (st : List Value) (σ : sS), Rx E d 271 13 [l0, l1, l2, l3] st σ = Rx E d 271 14 [l0, l1, l2, l3] (.int (1) :: st) σ) ∧
  (∀ (E : sV) (d : Nat) (l0 l1 l2 l3 : Option Value) (v : Int32) (σ : sS), Rx E d 271 14 [l0, l1, l2, l3] [.int v] σ = some (.inl (some (.int v)), σ)) ∧
  (∀ (E : sV) (d : Nat) (l0 l1 l2 l3 : Option Value) (st : List Value) (σ : sS), Rx E d 271 15 [l0, l1, l2, l3] st σ = Rx E d 271 16 [l0, l1, l2, l3] (.int (0) :: st) σ) ∧
  (∀ (E : sV) (d : Nat) (l0 l1 l2 l3 : Option Value) (v : Int32) (σ : sS), Rx E d 271 16 [l0, l1, l2, l3] [.int v] σ = some (.inl (some (.int v)), σ)) := ⟨fun _ _ _ _ _ _ _ _ => Rx_of gMT_271 d271_0 rfl,
  fun _ _ _ _ _ _ _ => Rx_of gMT_271 d271_0 rfl,
  fun _ _ _ _ _ _ _ _ => Rx_of gMT_271 d271_1 rfl,
  fun _ _ _ _ _ _ _ _ => Rx_of gMT_271 d271_2 rfl,
  fun _ _ _ _ _ _ _ => Rx_of gMT_271 d271_2 rfl,
  fun _ _ _ _ _ _ _ _ => Rx_of gMT_271 d271_3 rfl,
  fun _ _ _ _ _ _ _ _ _ _ hc hb => Rx_callW gMT_271 d271_4 rfl rfl rfl rfl hc hb,
  fun _ _ _ _ _ _ _ _ _ => Rx_of gMT_271 d271_7 rfl,
  fun _ _ _ _ _ _ _ _ _ _ _ => Rx_ast gMT_271 d271_8 rfl rfl,
  fun _ _ _ _ _ _ _ _ => Rx_goto gMT_271 d271_9 rfl (by decide),
  fun _ _ _ _ _ _ _ _ _ => Rx_of gMT_271 d271_12 rfl,
  fun _ _ _ _ _ _ _ _ => Rx_of gMT_271 d271_12 rfl,
  fun _ _ _ _ _ _ _ _ => Rx_of gMT_271 d271_13 rfl,
  fun _ _ _ _ _ _ _ _ => Rx_iretI gMT_271 d271_14 rfl rfl,
  fun _ _ _ _ _ _ _ _ => Rx_of gMT_271 d271_15 rfl,
  fun _ _ _ _ _ _ _ _ => Rx_iretI gMT_271 d271_16 rfl rfl⟩
-- QLaw_assigned: QLaw_assigned_0
theorem NLaw_assigned (E : sV) (d : Nat) (a0 : Nat) (a1 : Int32) (a2 : Nat) (σ : sS) : Mt E (d + 1) 271 [.ref a0, .int a1, .ref a2] σ = Rx E d 271 0 [some (.ref a0), some (.int a1), some (.ref a2), none] [] σ := Mt_succ gMT_271 (Nat.le_of_ble_eq_true rfl)
theorem QLaw_canRepair_0 : (∀ (E : sV) (d : Nat) (l0 : Option Value) (l1 : Option Value) (l2 : Option Value) (l4 : Option Value) (x : Nat) (st : List Value) (σ : sS), Rx E d 272 0 [l0, l1, l2, some (.ref x), l4] st σ = Rx E d 272 1 [l0, l1, l2, some (.ref x), l4] (.ref x :: st) σ) ∧
  (∀ (E : sV) (d : Nat) (l0 : Option Value) (l1 : Option Value) (l2 : Option Value) (l4 : Option Value) (st : List Value) (σ : sS), Rx E d 272 0 [l0, l1, l2, some (.null), l4] st σ = Rx E d 272 1 [l0, l1, l2, some (.null), l4] (.null :: st) σ) ∧
  (∀ (E : sV) (d : Nat) (l0 l1 l2 l3 l4 : Option Value) (st : List Value) (σ : sS), Rx E d 272 1 [l0, l1, l2, l3, l4] st σ = Rx E d 272 2 [l0, l1, l2, l3, l4] (.int (0) :: st) σ) ∧
  (∀ (E : sV) (d : Nat) (l1 : Option Value) (l2 : Option Value) (l3 : Option Value) (l4 : Option Value) (x : Nat) (st : List Value) (σ : sS), Rx E d 272 2 [some (.ref x), l1, l2, l3, l4] st σ = Rx E d 272 3 [some (.ref x), l1, l2, l3, l4] (.ref x :: st) σ) ∧
  (∀ (E : sV) (d : Nat) (l1 : Option Value) (l2 : Option Value) (l3 : Option Value) (l4 : Option Value) (st : List Value) (σ : sS), Rx E d 272 2 [some (.null), l1, l2, l3, l4] st σ = Rx E d 272 3 [some (.null), l1, l2, l3, l4] (.null :: st) σ) ∧
  (∀ (E : sV) (d : Nat) (l0 : Option Value) (l2 : Option Value) (l3 : Option Value) (l4 : Option Value) (x : Int32) (st : List Value) (σ : sS), Rx E d 272 3 [l0, some (.int x), l2, l3, l4] st σ = Rx E d 272 4 [l0, some (.int x), l2, l3, l4] (.int x :: st) σ) ∧
  (∀ (E : sV) (d : Nat) (l0 : Option Value) (l1 : Option Value) (l3 : Option Value) (l4 : Option Value) (x : Int32) (st : List Value) (σ : sS), Rx E d 272 4 [l0, l1, some (.int x), l3, l4] st σ = Rx E d 272 5 [l0, l1, some (.int x), l3, l4] (.int x :: st) σ) ∧
  (∀ (E : sV) (d : Nat) (l0 l1 l2 l3 l4 : Option Value) (v1 v2 : Value) (b : Nat) (st : List Value) (σ : sS) (hc : cats st ≤ 8) (hb : isOb σ.1 b 7 = true), Rx E d 272 5 [l0, l1, l2, l3, l4] (v2 :: v1 :: .ref b :: st) σ = fin E d 272 (sRet gm272 5 [l0, l1, l2, l3, l4] st (Mt E d 107 [.ref b, v1, v2] σ))) ∧
  (∀ (E : sV) (d : Nat) (l0 l1 l2 l3 l4 : Option Value) (x : Int32) (st : List Value) (σ : sS), Rx E d 272 8 [l0, l1, l2, l3, l4] (.int x :: st) σ = if x = 0 then Rx E d 272 15 [l0, l1, l2, l3, l4] st σ else Rx E d 272 11 [l0, l1, l2, l3, l4] st σ) ∧
  (∀ (E : sV) (d : Nat) (l0 l1 l2 l3 l4 : Option Value) (st : List Value) (σ : sS), Rx E d 272 11 [l0, l1, l2, l3, l4] st σ = Rx E d 272 12 [l0, l1, l2, l3, l4] (.long 1 :: st) σ) ∧
  (∀ (E : sV) (d : Nat) (l0 l1 l2 l3 l4 : Option Value) (st : List Value) (σ : sS), Rx E d 272 12 [l0, l1, l2, l3, l4] st σ = Rx E d 272 16 [l0, l1, l2, l3, l4] st σ) ∧
  (∀ (E : sV) (d : Nat) (l0 l1 l2 l3 l4 : Option Value) (st : List Value) (σ : sS), Rx E d 272 15 [l0, l1, l2, l3, l4] st σ = Rx E d 272 16 [l0, l1, l2, l3, l4] (.long 0 :: st) σ) ∧
  (∀ (E : sV) (d : Nat) (l0 l1 l2 l3 l4 : Option Value) (x : Int64) (i : Int32) (a : Nat) (st : List Value) (σ : sS), Rx E d 272 16 [l0, l1, l2, l3, l4] (.long x :: .int i :: .ref a :: st) σ = if E.1 ≤ a then (astL σ.1 a i x).bind (fun h => Rx E d 272 17 [l0, l1, l2, l3, l4] st (h, σ.2)) else none) ∧
  (∀ (E : sV) (d : Nat) (l0 l1 l2 l3 l4 : Option Value) (st : List Value) (σ : sS), Rx E d 272 17 [l0, l1, l2, l3, l4] st σ = Rx E d 272 28 [l0, l1, l2, l3, l4] st σ) ∧
  (∀ (E : sV) (d : Nat) (l0 l1 l2 l3 l4 : Option Value) (x : Nat) (st : List Value) (σ : sS), Rx E d 272 20 [l0, l1, l2, l3, l4] (.ref x :: st) σ = Rx E d 272 22 [l0, l1, l2, ldrop l3, some (.ref x)] st σ) ∧
  (∀ (E : sV) (d : Nat) (l0 l1 l2 l3 l4 : Option Value) (st : List Value) (σ : sS), Rx E d 272 20 [l0, l1, l2, l3, l4] (.null :: st) σ = Rx E d 272 22 [l0, l1, l2, ldrop l3, some (.null)] st σ) ∧
  (∀ (E : sV) (d : Nat) (l0 l1 l2 l3 l4 : Option Value) (st : List Value) (σ : sS), Rx E d 272 22 [l0, l1, l2, l3, l4] st σ = Rx E d 272 23 [l0, l1, l2, l3, l4] (.int (1) :: st) σ) ∧
  (∀ (E : sV) (d : Nat) (l0 l1 l2 l3 l4 : Option Value) (v : Int32) (σ : sS), Rx E d 272 23 [l0, l1, l2, l3, l4] [.int v] σ = some (.inl (some (.int v)), σ)) ∧
  (∀ (E : sV) (d : Nat) (l0 l1 l2 l3 l4 : Option Value) (x : Nat) (st : List Value) (σ : sS), Rx E d 272 24 [l0, l1, l2, l3, l4] (.ref x :: st) σ = Rx E d 272 26 [l0, l1, l2, ldrop l3, some (.ref x)] st σ) ∧
  (∀ (E : sV) (d : Nat) (l0 l1 l2 l3 l4 : Option Value) (st : List Value) (σ : sS), Rx E d 272 24 [l0, l1, l2, l3, l4] (.null :: st) σ = Rx E d 272 26 [l0, l1, l2, ldrop l3, some (.null)] st σ) ∧
  (∀ (E : sV) (d : Nat) (l0 l1 l2 l3 l4 : Option Value) (st : List Value) (σ : sS), Rx E d 272 26 [l0, l1, l2, l3, l4] st σ = Rx E d 272 27 [l0, l1, l2, l3, l4] (.int (2) :: st) σ) ∧
  (∀ (E : sV) (d : Nat) (l0 l1 l2 l3 l4 : Option Value) (v : Int32) (σ : sS), Rx E d 272 27 [l0, l1, l2, l3, l4] [.int v] σ = some (.inl (some (.int v)), σ)) ∧
  (∀ (E : sV) (d : Nat) (l0 l1 l2 l3 l4 : Option Value) (st : List Value) (σ : sS), Rx E d 272 28 [l0, l1, l2, l3, l4] st σ = Rx E d 272 29 [l0, l1, l2, l3, l4] (.int (0) :: st) σ) ∧
  (∀ (E : sV) (d : Nat) (l0 l1 l2 l3 l4 : Option Value) (v : Int32) (σ : sS), Rx E d 272 29 [l0, l1, l2, l3, l4] [.int v] σ = some (.inl (some (.int v)), σ)) := ⟨fun _ _ _ _ _ _ _ _ _ => Rx_of gMT_272 d272_0 rfl,
  fun _ _ _ _ _ _ _ _ => Rx_of gMT_272 d272_0 rfl,
  fun _ _ _ _ _ _ _ _ _ => Rx_of gMT_272 d272_1 rfl,
  fun _ _ _ _ _ _ _ _ _ => Rx_of gMT_272 d272_2 rfl,
  fun _ _ _ _ _ _ _ _ => Rx_of gMT_272 d272_2 rfl,
  fun _ _ _ _ _ _ _ _ _ => Rx_of gMT_272 d272_3 rfl,
  fun _ _ _ _ _ _ _ _ _ => Rx_of gMT_272 d272_4 rfl,
  fun _ _ _ _ _ _ _ _ _ _ _ _ hc hb => Rx_callW gMT_272 d272_5 rfl rfl rfl rfl hc hb,
  fun _ _ _ _ _ _ _ _ _ _ => Rx_if gMT_272 d272_8 rfl rfl (by decide),
  fun _ _ _ _ _ _ _ _ _ => Rx_of gMT_272 d272_11 rfl,
  fun _ _ _ _ _ _ _ _ _ => Rx_goto gMT_272 d272_12 rfl (by decide),
  fun _ _ _ _ _ _ _ _ _ => Rx_of gMT_272 d272_15 rfl,
  fun _ _ _ _ _ _ _ _ _ _ _ _ => Rx_ast gMT_272 d272_16 rfl rfl,
  fun _ _ _ _ _ _ _ _ _ => Rx_goto gMT_272 d272_17 rfl (by decide),
  fun _ _ _ _ _ _ _ _ _ _ => Rx_of gMT_272 d272_20 rfl,
  fun _ _ _ _ _ _ _ _ _ => Rx_of gMT_272 d272_20 rfl,
  fun _ _ _ _ _ _ _ _ _ => Rx_of gMT_272 d272_22 rfl,
  fun _ _ _ _ _ _ _ _ _ => Rx_iretI gMT_272 d272_23 rfl rfl,
  fun _ _ _ _ _ _ _ _ _ _ => Rx_of gMT_272 d272_24 rfl,
  fun _ _ _ _ _ _ _ _ _ => Rx_of gMT_272 d272_24 rfl,
  fun _ _ _ _ _ _ _ _ _ => Rx_of gMT_272 d272_26 rfl,
  fun _ _ _ _ _ _ _ _ _ => Rx_iretI gMT_272 d272_27 rfl rfl,
  fun _ _ _ _ _ _ _ _ _ => Rx_of gMT_272 d272_28 rfl,
  fun _ _ _ _ _ _ _ _ _ => Rx_iretI gMT_272 d272_29 rfl rfl⟩
-- QLaw_canRepair: QLaw_canRepair_0
theorem NLaw_canRepair (E : sV) (d : Nat) (a0 : Nat) (a1 : Int32) (a2 : Int32) (a3 : Nat) (σ : sS) : Mt E (d + 1) 272 [.ref a0, .int a1, .int a2, .ref a3] σ = Rx E d 272 0 [some (.ref a0), some (.int a1), some (.int a2), some (.ref a3), none] [] σ := Mt_succ gMT_272 (Nat.le_of_ble_eq_true rfl)
theorem QLaw_finish_0 : (∀ (E : sV) (d : Nat) (l0 : Option Value) (l1 : Option Value) (l2 : Option Value) (l4 : Option Value) (x : Nat) (st : List Value) (σ : sS), Rx E d 273 0 [l0, l1, l2, some (.ref x), l4] st σ = Rx E d 273 1 [l0, l1, l2, some (.ref x), l4] (.ref x :: st) σ) ∧
  (∀ (E : sV) (d : Nat) (l0 : Option Value) (l1 : Option Value) (l2 : Option Value) (l4 : Option Value) (st : List Value) (σ : sS), Rx E d 273 0 [l0, l1, l2, some (.null), l4] st σ = Rx E d 273 1 [l0, l1, l2, some (.null), l4] (.null :: st) σ) ∧
  (∀ (E : sV) (d : Nat) (l0 l1 l2 l3 l4 : Option Value) (st : List Value) (σ : sS), Rx E d 273 1 [l0, l1, l2, l3, l4] st σ = Rx E d 273 2 [l0, l1, l2, l3, l4] (.int (0) :: st) σ) ∧
  (∀ (E : sV) (d : Nat) (l1 : Option Value) (l2 : Option Value) (l3 : Option Value) (l4 : Option Value) (x : Nat) (st : List Value) (σ : sS), Rx E d 273 2 [some (.ref x), l1, l2, l3, l4] st σ = Rx E d 273 3 [some (.ref x), l1, l2, l3, l4] (.ref x :: st) σ) ∧
  (∀ (E : sV) (d : Nat) (l1 : Option Value) (l2 : Option Value) (l3 : Option Value) (l4 : Option Value) (st : List Value) (σ : sS), Rx E d 273 2 [some (.null), l1, l2, l3, l4] st σ = Rx E d 273 3 [some (.null), l1, l2, l3, l4] (.null :: st) σ) ∧
  (∀ (E : sV) (d : Nat) (l0 : Option Value) (l2 : Option Value) (l3 : Option Value) (l4 : Option Value) (x : Int32) (st : List Value) (σ : sS), Rx E d 273 3 [l0, some (.int x), l2, l3, l4] st σ = Rx E d 273 4 [l0, some (.int x), l2, l3, l4] (.int x :: st) σ) ∧
  (∀ (E : sV) (d : Nat) (l0 : Option Value) (l1 : Option Value) (l3 : Option Value) (l4 : Option Value) (x : Int32) (st : List Value) (σ : sS), Rx E d 273 4 [l0, l1, some (.int x), l3, l4] st σ = Rx E d 273 5 [l0, l1, some (.int x), l3, l4] (.int x :: st) σ) ∧
  (∀ (E : sV) (d : Nat) (l0 l1 l2 l3 l4 : Option Value) (v1 v2 : Value) (b : Nat) (st : List Value) (σ : sS) (hc : cats st ≤ 8) (hb : isOb σ.1 b 7 = true), Rx E d 273 5 [l0, l1, l2, l3, l4] (v2 :: v1 :: .ref b :: st) σ = fin E d 273 (sRet gm273 5 [l0, l1, l2, l3, l4] st (Mt E d 108 [.ref b, v1, v2] σ))) ∧
  (∀ (E : sV) (d : Nat) (l0 l1 l2 l3 l4 : Option Value) (x : Int32) (st : List Value) (σ : sS), Rx E d 273 8 [l0, l1, l2, l3, l4] (.int x :: st) σ = Rx E d 273 9 [l0, l1, l2, l3, l4] (.long x.toInt64 :: st) σ) ∧
  (∀ (E : sV) (d : Nat) (l0 l1 l2 l3 l4 : Option Value) (x : Int64) (i : Int32) (a : Nat) (st : List Value) (σ : sS), Rx E d 273 9 [l0, l1, l2, l3, l4] (.long x :: .int i :: .ref a :: st) σ = if E.1 ≤ a then (astL σ.1 a i x).bind (fun h => Rx E d 273 10 [l0, l1, l2, l3, l4] st (h, σ.2)) else none) ∧
  (∀ (E : sV) (d : Nat) (l0 l1 l2 l3 l4 : Option Value) (st : List Value) (σ : sS), Rx E d 273 10 [l0, l1, l2, l3, l4] st σ = Rx E d 273 21 [l0, l1, l2, l3, l4] st σ) ∧
  (∀ (E : sV) (d : Nat) (l0 l1 l2 l3 l4 : Option Value) (x : Nat) (st : List Value) (σ : sS), Rx E d 273 13 [l0, l1, l2, l3, l4] (.ref x :: st) σ = Rx E d 273 15 [l0, l1, l2, ldrop l3, some (.ref x)] st σ) ∧
  (∀ (E : sV) (d : Nat) (l0 l1 l2 l3 l4 : Option Value) (st : List Value) (σ : sS), Rx E d 273 13 [l0, l1, l2, l3, l4] (.null :: st) σ = Rx E d 273 15 [l0, l1, l2, ldrop l3, some (.null)] st σ) ∧
  (∀ (E : sV) (d : Nat) (l0 l1 l2 l3 l4 : Option Value) (st : List Value) (σ : sS), Rx E d 273 15 [l0, l1, l2, l3, l4] st σ = Rx E d 273 16 [l0, l1, l2, l3, l4] (.int (1) :: st) σ) ∧
  (∀ (E : sV) (d : Nat) (l0 l1 l2 l3 l4 : Option Value) (v : Int32) (σ : sS), Rx E d 273 16 [l0, l1, l2, l3, l4] [.int v] σ = some (.inl (some (.int v)), σ)) ∧
  (∀ (E : sV) (d : Nat) (l0 l1 l2 l3 l4 : Option Value) (x : Nat) (st : List Value) (σ : sS), Rx E d 273 17 [l0, l1, l2, l3, l4] (.ref x :: st) σ = Rx E d 273 19 [l0, l1, l2, ldrop l3, some (.ref x)] st σ) ∧
  (∀ (E : sV) (d : Nat) (l0 l1 l2 l3 l4 : Option Value) (st : List Value) (σ : sS), Rx E d 273 17 [l0, l1, l2, l3, l4] (.null :: st) σ = Rx E d 273 19 [l0, l1, l2, ldrop l3, some (.null)] st σ) ∧
  (∀ (E : sV) (d : Nat) (l0 l1 l2 l3 l4 : Option Value) (st : List Value) (σ : sS), Rx E d 273 19 [l0, l1, l2, l3, l4] st σ = Rx E d 273 20 [l0, l1, l2, l3, l4] (.int (2) :: st) σ) ∧
  (∀ (E : sV) (d : Nat) (l0 l1 l2 l3 l4 : Option Value) (v : Int32) (σ : sS), Rx E d 273 20 [l0, l1, l2, l3, l4] [.int v] σ = some (.inl (some (.int v)), σ)) ∧
  (∀ (E : sV) (d : Nat) (l0 l1 l2 l3 l4 : Option Value) (st : List Value) (σ : sS), Rx E d 273 21 [l0, l1, l2, l3, l4] st σ = Rx E d 273 22 [l0, l1, l2, l3, l4] (.int (0) :: st) σ) ∧
  (∀ (E : sV) (d : Nat) (l0 l1 l2 l3 l4 : Option Value) (v : Int32) (σ : sS), Rx E d 273 22 [l0, l1, l2, l3, l4] [.int v] σ = some (.inl (some (.int v)), σ)) := ⟨fun _ _ _ _ _ _ _ _ _ => Rx_of gMT_273 d273_0 rfl,
  fun _ _ _ _ _ _ _ _ => Rx_of gMT_273 d273_0 rfl,
  fun _ _ _ _ _ _ _ _ _ => Rx_of gMT_273 d273_1 rfl,
  fun _ _ _ _ _ _ _ _ _ => Rx_of gMT_273 d273_2 rfl,
  fun _ _ _ _ _ _ _ _ => Rx_of gMT_273 d273_2 rfl,
  fun _ _ _ _ _ _ _ _ _ => Rx_of gMT_273 d273_3 rfl,
  fun _ _ _ _ _ _ _ _ _ => Rx_of gMT_273 d273_4 rfl,
  fun _ _ _ _ _ _ _ _ _ _ _ _ hc hb => Rx_callW gMT_273 d273_5 rfl rfl rfl rfl hc hb,
  fun _ _ _ _ _ _ _ _ _ _ => Rx_of gMT_273 d273_8 rfl,
  fun _ _ _ _ _ _ _ _ _ _ _ _ => Rx_ast gMT_273 d273_9 rfl rfl,
  fun _ _ _ _ _ _ _ _ _ => Rx_goto gMT_273 d273_10 rfl (by decide),
  fun _ _ _ _ _ _ _ _ _ _ => Rx_of gMT_273 d273_13 rfl,
  fun _ _ _ _ _ _ _ _ _ => Rx_of gMT_273 d273_13 rfl,
  fun _ _ _ _ _ _ _ _ _ => Rx_of gMT_273 d273_15 rfl,
  fun _ _ _ _ _ _ _ _ _ => Rx_iretI gMT_273 d273_16 rfl rfl,
  fun _ _ _ _ _ _ _ _ _ _ => Rx_of gMT_273 d273_17 rfl,
  fun _ _ _ _ _ _ _ _ _ => Rx_of gMT_273 d273_17 rfl,
  fun _ _ _ _ _ _ _ _ _ => Rx_of gMT_273 d273_19 rfl,
  fun _ _ _ _ _ _ _ _ _ => Rx_iretI gMT_273 d273_20 rfl rfl,
  fun _ _ _ _ _ _ _ _ _ => Rx_of gMT_273 d273_21 rfl,
  fun _ _ _ _ _ _ _ _ _ => Rx_iretI gMT_273 d273_22 rfl rfl⟩
-- QLaw_finish: QLaw_finish_0
theorem NLaw_finish (E : sV) (d : Nat) (a0 : Nat) (a1 : Int32) (a2 : Int32) (a3 : Nat) (σ : sS) : Mt E (d + 1) 273 [.ref a0, .int a1, .int a2, .ref a3] σ = Rx E d 273 0 [some (.ref a0), some (.int a1), some (.int a2), some (.ref a3), none] [] σ := Mt_succ gMT_273 (Nat.le_of_ble_eq_true rfl)
theorem QLaw_fastestBarrow_0 : (∀ (E : sV) (d : Nat) (l0 : Option Value) (l1 : Option Value) (l3 : Option Value) (x : Nat) (st : List Value) (σ : sS), Rx E d 274 0 [l0, l1, some (.ref x), l3] st σ = Rx E d 274 1 [l0, l1, some (.ref x), l3] (.ref x :: st) σ) ∧
  (∀ (E : sV) (d : Nat) (l0 : Option Value) (l1 : Option Value) (l3 : Option Value) (st : List Value) (σ : sS), Rx E d 274 0 [l0, l1, some (.null), l3] st σ = Rx E d 274 1 [l0, l1, some (.null), l3] (.null :: st) σ) ∧
  (∀ (E : sV) (d : Nat) (l0 l1 l2 l3 : Option Value) (st : List Value) (σ : sS), Rx E d 274 1 [l0, l1, l2, l3] st σ = Rx E d 274 2 [l0, l1, l2, l3] (.int (0) :: st) σ) ∧
  (∀ (E : sV) (d : Nat) (l1 : Option Value) (l2 : Option Value) (l3 : Option Value) (x : Nat) (st : List Value) (σ : sS), Rx E d 274 2 [some (.ref x), l1, l2, l3] st σ = Rx E d 274 3 [some (.ref x), l1, l2, l3] (.ref x :: st) σ) ∧
  (∀ (E : sV) (d : Nat) (l1 : Option Value) (l2 : Option Value) (l3 : Option Value) (st : List Value) (σ : sS), Rx E d 274 2 [some (.null), l1, l2, l3] st σ = Rx E d 274 3 [some (.null), l1, l2, l3] (.null :: st) σ) ∧
  (∀ (E : sV) (d : Nat) (l0 : Option Value) (l2 : Option Value) (l3 : Option Value) (x : Int32) (st : List Value) (σ : sS), Rx E d 274 3 [l0, some (.int x), l2, l3] st σ = Rx E d 274 4 [l0, some (.int x), l2, l3] (.int x :: st) σ) ∧
  (∀ (E : sV) (d : Nat) (l0 l1 l2 l3 : Option Value) (v1 : Value) (b : Nat) (st : List Value) (σ : sS) (hc : cats st ≤ 8) (hb : isOb σ.1 b 7 = true), Rx E d 274 4 [l0, l1, l2, l3] (v1 :: .ref b :: st) σ = fin E d 274 (sRet gm274 4 [l0, l1, l2, l3] st (Mt E d 109 [.ref b, v1] σ))) ∧
  (∀ (E : sV) (d : Nat) (l0 l1 l2 l3 : Option Value) (x : Int32) (st : List Value) (σ : sS), Rx E d 274 7 [l0, l1, l2, l3] (.int x :: st) σ = Rx E d 274 8 [l0, l1, l2, l3] (.long x.toInt64 :: st) σ) ∧
  (∀ (E : sV) (d : Nat) (l0 l1 l2 l3 : Option Value) (x : Int64) (i : Int32) (a : Nat) (st : List Value) (σ : sS), Rx E d 274 8 [l0, l1, l2, l3] (.long x :: .int i :: .ref a :: st) σ = if E.1 ≤ a then (astL σ.1 a i x).bind (fun h => Rx E d 274 9 [l0, l1, l2, l3] st (h, σ.2)) else none) ∧
  (∀ (E : sV) (d : Nat) (l0 l1 l2 l3 : Option Value) (st : List Value) (σ : sS), Rx E d 274 9 [l0, l1, l2, l3] st σ = Rx E d 274 15 [l0, l1, l2, l3] st σ) ∧
  (∀ (E : sV) (d : Nat) (l0 l1 l2 l3 : Option Value) (x : Nat) (st : List Value) (σ : sS), Rx E d 274 12 [l0, l1, l2, l3] (.ref x :: st) σ = Rx E d 274 13 [l0, l1, ldrop l2, some (.ref x)] st σ) ∧
  (∀ (E : sV) (d : Nat) (l0 l1 l2 l3 : Option Value) (st : List Value) (σ : sS), Rx E d 274 12 [l0, l1, l2, l3] (.null :: st) σ = Rx E d 274 13 [l0, l1, ldrop l2, some (.null)] st σ) ∧
  (∀ (E : sV) (d : Nat) (l0 l1 l2 l3 : Option Value) (st : List Value) (σ : sS), Rx E d 274 13 [l0, l1, l2, l3] st σ = Rx E d 274 14 [l0, l1, l2, l3] (.int (1) :: st) σ) ∧
  (∀ (E : sV) (d : Nat) (l0 l1 l2 l3 : Option Value) (v : Int32) (σ : sS), Rx E d 274 14 [l0, l1, l2, l3] [.int v] σ = some (.inl (some (.int v)), σ)) ∧
  (∀ (E : sV) (d : Nat) (l0 l1 l2 l3 : Option Value) (st : List Value) (σ : sS), Rx E d 274 15 [l0, l1, l2, l3] st σ = Rx E d 274 16 [l0, l1, l2, l3] (.int (0) :: st) σ) ∧
  (∀ (E : sV) (d : Nat) (l0 l1 l2 l3 : Option Value) (v : Int32) (σ : sS), Rx E d 274 16 [l0, l1, l2, l3] [.int v] σ = some (.inl (some (.int v)), σ)) := ⟨fun _ _ _ _ _ _ _ _ => Rx_of gMT_274 d274_0 rfl,
  fun _ _ _ _ _ _ _ => Rx_of gMT_274 d274_0 rfl,
  fun _ _ _ _ _ _ _ _ => Rx_of gMT_274 d274_1 rfl,
  fun _ _ _ _ _ _ _ _ => Rx_of gMT_274 d274_2 rfl,
  fun _ _ _ _ _ _ _ => Rx_of gMT_274 d274_2 rfl,
  fun _ _ _ _ _ _ _ _ => Rx_of gMT_274 d274_3 rfl,
  fun _ _ _ _ _ _ _ _ _ _ hc hb => Rx_callW gMT_274 d274_4 rfl rfl rfl rfl hc hb,
  fun _ _ _ _ _ _ _ _ _ => Rx_of gMT_274 d274_7 rfl,
  fun _ _ _ _ _ _ _ _ _ _ _ => Rx_ast gMT_274 d274_8 rfl rfl,
  fun _ _ _ _ _ _ _ _ => Rx_goto gMT_274 d274_9 rfl (by decide),
  fun _ _ _ _ _ _ _ _ _ => Rx_of gMT_274 d274_12 rfl,
  fun _ _ _ _ _ _ _ _ => Rx_of gMT_274 d274_12 rfl,
  fun _ _ _ _ _ _ _ _ => Rx_of gMT_274 d274_13 rfl,
  fun _ _ _ _ _ _ _ _ => Rx_iretI gMT_274 d274_14 rfl rfl,
  fun _ _ _ _ _ _ _ _ => Rx_of gMT_274 d274_15 rfl,
  fun _ _ _ _ _ _ _ _ => Rx_iretI gMT_274 d274_16 rfl rfl⟩
-- QLaw_fastestBarrow: QLaw_fastestBarrow_0
theorem NLaw_fastestBarrow (E : sV) (d : Nat) (a0 : Nat) (a1 : Int32) (a2 : Nat) (σ : sS) : Mt E (d + 1) 274 [.ref a0, .int a1, .ref a2] σ = Rx E d 274 0 [some (.ref a0), some (.int a1), some (.ref a2), none] [] σ := Mt_succ gMT_274 (Nat.le_of_ble_eq_true rfl)
theorem QLaw_bestLateness_0 : (∀ (E : sV) (d : Nat) (l0 : Option Value) (l1 : Option Value) (l3 : Option Value) (x : Nat) (st : List Value) (σ : sS), Rx E d 275 0 [l0, l1, some (.ref x), l3] st σ = Rx E d 275 1 [l0, l1, some (.ref x), l3] (.ref x :: st) σ) ∧
  (∀ (E : sV) (d : Nat) (l0 : Option Value) (l1 : Option Value) (l3 : Option Value) (st : List Value) (σ : sS), Rx E d 275 0 [l0, l1, some (.null), l3] st σ = Rx E d 275 1 [l0, l1, some (.null), l3] (.null :: st) σ) ∧
  (∀ (E : sV) (d : Nat) (l0 l1 l2 l3 : Option Value) (st : List Value) (σ : sS), Rx E d 275 1 [l0, l1, l2, l3] st σ = Rx E d 275 2 [l0, l1, l2, l3] (.int (0) :: st) σ) ∧
  (∀ (E : sV) (d : Nat) (l1 : Option Value) (l2 : Option Value) (l3 : Option Value) (x : Nat) (st : List Value) (σ : sS), Rx E d 275 2 [some (.ref x), l1, l2, l3] st σ = Rx E d 275 3 [some (.ref x), l1, l2, l3] (.ref x :: st) σ) ∧
  (∀ (E : sV) (d : Nat) (l1 : Option Value) (l2 : Option Value) (l3 : Option Value) (st : List Value) (σ : sS), Rx E d 275 2 [some (.null), l1, l2, l3] st σ = Rx E d 275 3 [some (.null), l1, l2, l3] (.null :: st) σ) ∧
  (∀ (E : sV) (d : Nat) (l0 : Option Value) (l2 : Option Value) (l3 : Option Value) (x : Int32) (st : List Value) (σ : sS), Rx E d 275 3 [l0, some (.int x), l2, l3] st σ = Rx E d 275 4 [l0, some (.int x), l2, l3] (.int x :: st) σ) ∧
  (∀ (E : sV) (d : Nat) (l0 l1 l2 l3 : Option Value) (v1 : Value) (b : Nat) (st : List Value) (σ : sS) (hc : cats st ≤ 8) (hb : isOb σ.1 b 7 = true), Rx E d 275 4 [l0, l1, l2, l3] (v1 :: .ref b :: st) σ = fin E d 275 (sRet gm275 4 [l0, l1, l2, l3] st (Mt E d 110 [.ref b, v1] σ))) ∧
  (∀ (E : sV) (d : Nat) (l0 l1 l2 l3 : Option Value) (x : Int32) (st : List Value) (σ : sS), Rx E d 275 7 [l0, l1, l2, l3] (.int x :: st) σ = Rx E d 275 8 [l0, l1, l2, l3] (.long x.toInt64 :: st) σ) ∧
  (∀ (E : sV) (d : Nat) (l0 l1 l2 l3 : Option Value) (x : Int64) (i : Int32) (a : Nat) (st : List Value) (σ : sS), Rx E d 275 8 [l0, l1, l2, l3] (.long x :: .int i :: .ref a :: st) σ = if E.1 ≤ a then (astL σ.1 a i x).bind (fun h => Rx E d 275 9 [l0, l1, l2, l3] st (h, σ.2)) else none) ∧
  (∀ (E : sV) (d : Nat) (l0 l1 l2 l3 : Option Value) (st : List Value) (σ : sS), Rx E d 275 9 [l0, l1, l2, l3] st σ = Rx E d 275 15 [l0, l1, l2, l3] st σ) ∧
  (∀ (E : sV) (d : Nat) (l0 l1 l2 l3 : Option Value) (x : Nat) (st : List Value) (σ : sS), Rx E d 275 12 [l0, l1, l2, l3] (.ref x :: st) σ = Rx E d 275 13 [l0, l1, ldrop l2, some (.ref x)] st σ) ∧
  (∀ (E : sV) (d : Nat) (l0 l1 l2 l3 : Option Value) (st : List Value) (σ : sS), Rx E d 275 12 [l0, l1, l2, l3] (.null :: st) σ = Rx E d 275 13 [l0, l1, ldrop l2, some (.null)] st σ) ∧
  (∀ (E : sV) (d : Nat) (l0 l1 l2 l3 : Option Value) (st : List Value) (σ : sS), Rx E d 275 13 [l0, l1, l2, l3] st σ = Rx E d 275 14 [l0, l1, l2, l3] (.int (1) :: st) σ) ∧
  (∀ (E : sV) (d : Nat) (l0 l1 l2 l3 : Option Value) (v : Int32) (σ : sS), Rx E d 275 14 [l0, l1, l2, l3] [.int v] σ = some (.inl (some (.int v)), σ)) ∧
  (∀ (E : sV) (d : Nat) (l0 l1 l2 l3 : Option Value) (st : List Value) (σ : sS), Rx E d 275 15 [l0, l1, l2, l3] st σ = Rx E d 275 16 [l0, l1, l2, l3] (.int (0) :: st) σ) ∧
  (∀ (E : sV) (d : Nat) (l0 l1 l2 l3 : Option Value) (v : Int32) (σ : sS), Rx E d 275 16 [l0, l1, l2, l3] [.int v] σ = some (.inl (some (.int v)), σ)) := ⟨fun _ _ _ _ _ _ _ _ => Rx_of gMT_275 d275_0 rfl,
  fun _ _ _ _ _ _ _ => Rx_of gMT_275 d275_0 rfl,
  fun _ _ _ _ _ _ _ _ => Rx_of gMT_275 d275_1 rfl,
  fun _ _ _ _ _ _ _ _ => Rx_of gMT_275 d275_2 rfl,
  fun _ _ _ _ _ _ _ => Rx_of gMT_275 d275_2 rfl,
  fun _ _ _ _ _ _ _ _ => Rx_of gMT_275 d275_3 rfl,
  fun _ _ _ _ _ _ _ _ _ _ hc hb => Rx_callW gMT_275 d275_4 rfl rfl rfl rfl hc hb,
  fun _ _ _ _ _ _ _ _ _ => Rx_of gMT_275 d275_7 rfl,
  fun _ _ _ _ _ _ _ _ _ _ _ => Rx_ast gMT_275 d275_8 rfl rfl,
  fun _ _ _ _ _ _ _ _ => Rx_goto gMT_275 d275_9 rfl (by decide),
  fun _ _ _ _ _ _ _ _ _ => Rx_of gMT_275 d275_12 rfl,
  fun _ _ _ _ _ _ _ _ => Rx_of gMT_275 d275_12 rfl,
  fun _ _ _ _ _ _ _ _ => Rx_of gMT_275 d275_13 rfl,
  fun _ _ _ _ _ _ _ _ => Rx_iretI gMT_275 d275_14 rfl rfl,
  fun _ _ _ _ _ _ _ _ => Rx_of gMT_275 d275_15 rfl,
  fun _ _ _ _ _ _ _ _ => Rx_iretI gMT_275 d275_16 rfl rfl⟩
-- QLaw_bestLateness: QLaw_bestLateness_0
theorem NLaw_bestLateness (E : sV) (d : Nat) (a0 : Nat) (a1 : Int32) (a2 : Nat) (σ : sS) : Mt E (d + 1) 275 [.ref a0, .int a1, .ref a2] σ = Rx E d 275 0 [some (.ref a0), some (.int a1), some (.ref a2), none] [] σ := Mt_succ gMT_275 (Nat.le_of_ble_eq_true rfl)
theorem QLaw_bestLatenessByOrders_0 : (∀ (E : sV) (d : Nat) (l0 : Option Value) (l1 : Option Value) (l3 : Option Value) (x : Nat) (st : List Value) (σ : sS), Rx E d 276 0 [l0, l1, some (.ref x), l3] st σ = Rx E d 276 1 [l0, l1, some (.ref x), l3] (.ref x :: st) σ) ∧
  (∀ (E : sV) (d : Nat) (l0 : Option Value) (l1 : Option Value) (l3 : Option Value) (st : List Value) (σ : sS), Rx E d 276 0 [l0, l1, some (.null), l3] st σ = Rx E d 276 1 [l0, l1, some (.null), l3] (.null :: st) σ) ∧
  (∀ (E : sV) (d : Nat) (l0 l1 l2 l3 : Option Value) (st : List Value) (σ : sS), Rx E d 276 1 [l0, l1, l2, l3] st σ = Rx E d 276 2 [l0, l1, l2, l3] (.int (0) :: st) σ) ∧
  (∀ (E : sV) (d : Nat) (l1 : Option Value) (l2 : Option Value) (l3 : Option Value) (x : Nat) (st : List Value) (σ : sS), Rx E d 276 2 [some (.ref x), l1, l2, l3] st σ = Rx E d 276 3 [some (.ref x), l1, l2, l3] (.ref x :: st) σ) ∧
  (∀ (E : sV) (d : Nat) (l1 : Option Value) (l2 : Option Value) (l3 : Option Value) (st : List Value) (σ : sS), Rx E d 276 2 [some (.null), l1, l2, l3] st σ = Rx E d 276 3 [some (.null), l1, l2, l3] (.null :: st) σ) ∧
  (∀ (E : sV) (d : Nat) (l0 : Option Value) (l2 : Option Value) (l3 : Option Value) (x : Int32) (st : List Value) (σ : sS), Rx E d 276 3 [l0, some (.int x), l2, l3] st σ = Rx E d 276 4 [l0, some (.int x), l2, l3] (.int x :: st) σ) ∧
  (∀ (E : sV) (d : Nat) (l0 l1 l2 l3 : Option Value) (v1 : Value) (b : Nat) (st : List Value) (σ : sS) (hc : cats st ≤ 8) (hb : isOb σ.1 b 7 = true), Rx E d 276 4 [l0, l1, l2, l3] (v1 :: .ref b :: st) σ = fin E d 276 (sRet gm276 4 [l0, l1, l2, l3] st (Mt E d 111 [.ref b, v1] σ))) ∧
  (∀ (E : sV) (d : Nat) (l0 l1 l2 l3 : Option Value) (x : Int32) (st : List Value) (σ : sS), Rx E d 276 7 [l0, l1, l2, l3] (.int x :: st) σ = Rx E d 276 8 [l0, l1, l2, l3] (.long x.toInt64 :: st) σ) ∧
  (∀ (E : sV) (d : Nat) (l0 l1 l2 l3 : Option Value) (x : Int64) (i : Int32) (a : Nat) (st : List Value) (σ : sS), Rx E d 276 8 [l0, l1, l2, l3] (.long x :: .int i :: .ref a :: st) σ = if E.1 ≤ a then (astL σ.1 a i x).bind (fun h => Rx E d 276 9 [l0, l1, l2, l3] st (h, σ.2)) else none) ∧
  (∀ (E : sV) (d : Nat) (l0 l1 l2 l3 : Option Value) (st : List Value) (σ : sS), Rx E d 276 9 [l0, l1, l2, l3] st σ = Rx E d 276 15 [l0, l1, l2, l3] st σ) ∧
  (∀ (E : sV) (d : Nat) (l0 l1 l2 l3 : Option Value) (x : Nat) (st : List Value) (σ : sS), Rx E d 276 12 [l0, l1, l2, l3] (.ref x :: st) σ = Rx E d 276 13 [l0, l1, ldrop l2, some (.ref x)] st σ) ∧
  (∀ (E : sV) (d : Nat) (l0 l1 l2 l3 : Option Value) (st : List Value) (σ : sS), Rx E d 276 12 [l0, l1, l2, l3] (.null :: st) σ = Rx E d 276 13 [l0, l1, ldrop l2, some (.null)] st σ) ∧
  (∀ (E : sV) (d : Nat) (l0 l1 l2 l3 : Option Value) (st : List Value) (σ : sS), Rx E d 276 13 [l0, l1, l2, l3] st σ = Rx E d 276 14 [l0, l1, l2, l3] (.int (1) :: st) σ) ∧
  (∀ (E : sV) (d : Nat) (l0 l1 l2 l3 : Option Value) (v : Int32) (σ : sS), Rx E d 276 14 [l0, l1, l2, l3] [.int v] σ = some (.inl (some (.int v)), σ)) ∧
  (∀ (E : sV) (d : Nat) (l0 l1 l2 l3 : Option Value) (st : List Value) (σ : sS), Rx E d 276 15 [l0, l1, l2, l3] st σ = Rx E d 276 16 [l0, l1, l2, l3] (.int (0) :: st) σ) ∧
  (∀ (E : sV) (d : Nat) (l0 l1 l2 l3 : Option Value) (v : Int32) (σ : sS), Rx E d 276 16 [l0, l1, l2, l3] [.int v] σ = some (.inl (some (.int v)), σ)) := ⟨fun _ _ _ _ _ _ _ _ => Rx_of gMT_276 d276_0 rfl,
  fun _ _ _ _ _ _ _ => Rx_of gMT_276 d276_0 rfl,
  fun _ _ _ _ _ _ _ _ => Rx_of gMT_276 d276_1 rfl,
  fun _ _ _ _ _ _ _ _ => Rx_of gMT_276 d276_2 rfl,
  fun _ _ _ _ _ _ _ => Rx_of gMT_276 d276_2 rfl,
  fun _ _ _ _ _ _ _ _ => Rx_of gMT_276 d276_3 rfl,
  fun _ _ _ _ _ _ _ _ _ _ hc hb => Rx_callW gMT_276 d276_4 rfl rfl rfl rfl hc hb,
  fun _ _ _ _ _ _ _ _ _ => Rx_of gMT_276 d276_7 rfl,
  fun _ _ _ _ _ _ _ _ _ _ _ => Rx_ast gMT_276 d276_8 rfl rfl,
  fun _ _ _ _ _ _ _ _ => Rx_goto gMT_276 d276_9 rfl (by decide),
  fun _ _ _ _ _ _ _ _ _ => Rx_of gMT_276 d276_12 rfl,
  fun _ _ _ _ _ _ _ _ => Rx_of gMT_276 d276_12 rfl,
  fun _ _ _ _ _ _ _ _ => Rx_of gMT_276 d276_13 rfl,
  fun _ _ _ _ _ _ _ _ => Rx_iretI gMT_276 d276_14 rfl rfl,
  fun _ _ _ _ _ _ _ _ => Rx_of gMT_276 d276_15 rfl,
  fun _ _ _ _ _ _ _ _ => Rx_iretI gMT_276 d276_16 rfl rfl⟩
-- QLaw_bestLatenessByOrders: QLaw_bestLatenessByOrders_0
theorem NLaw_bestLatenessByOrders (E : sV) (d : Nat) (a0 : Nat) (a1 : Int32) (a2 : Nat) (σ : sS) : Mt E (d + 1) 276 [.ref a0, .int a1, .ref a2] σ = Rx E d 276 0 [some (.ref a0), some (.int a1), some (.ref a2), none] [] σ := Mt_succ gMT_276 (Nat.le_of_ble_eq_true rfl)
theorem QLaw_planned_0 : (∀ (E : sV) (d : Nat) (l0 : Option Value) (l1 : Option Value) (l2 : Option Value) (l4 : Option Value) (x : Nat) (st : List Value) (σ : sS), Rx E d 277 0 [l0, l1, l2, some (.ref x), l4] st σ = Rx E d 277 1 [l0, l1, l2, some (.ref x), l4] (.ref x :: st) σ) ∧
  (∀ (E : sV) (d : Nat) (l0 : Option Value) (l1 : Option Value) (l2 : Option Value) (l4 : Option Value) (st : List Value) (σ : sS), Rx E d 277 0 [l0, l1, l2, some (.null), l4] st σ = Rx E d 277 1 [l0, l1, l2, some (.null), l4] (.null :: st) σ) ∧
  (∀ (E : sV) (d : Nat) (l0 l1 l2 l3 l4 : Option Value) (st : List Value) (σ : sS), Rx E d 277 1 [l0, l1, l2, l3, l4] st σ = Rx E d 277 2 [l0, l1, l2, l3, l4] (.int (0) :: st) σ) ∧
  (∀ (E : sV) (d : Nat) (l1 : Option Value) (l2 : Option Value) (l3 : Option Value) (l4 : Option Value) (x : Nat) (st : List Value) (σ : sS), Rx E d 277 2 [some (.ref x), l1, l2, l3, l4] st σ = Rx E d 277 3 [some (.ref x), l1, l2, l3, l4] (.ref x :: st) σ) ∧
  (∀ (E : sV) (d : Nat) (l1 : Option Value) (l2 : Option Value) (l3 : Option Value) (l4 : Option Value) (st : List Value) (σ : sS), Rx E d 277 2 [some (.null), l1, l2, l3, l4] st σ = Rx E d 277 3 [some (.null), l1, l2, l3, l4] (.null :: st) σ) ∧
  (∀ (E : sV) (d : Nat) (l0 : Option Value) (l2 : Option Value) (l3 : Option Value) (l4 : Option Value) (x : Int32) (st : List Value) (σ : sS), Rx E d 277 3 [l0, some (.int x), l2, l3, l4] st σ = Rx E d 277 4 [l0, some (.int x), l2, l3, l4] (.int x :: st) σ) ∧
  (∀ (E : sV) (d : Nat) (l0 : Option Value) (l1 : Option Value) (l3 : Option Value) (l4 : Option Value) (x : Int32) (st : List Value) (σ : sS), Rx E d 277 4 [l0, l1, some (.int x), l3, l4] st σ = Rx E d 277 5 [l0, l1, some (.int x), l3, l4] (.int x :: st) σ) ∧
  (∀ (E : sV) (d : Nat) (l0 l1 l2 l3 l4 : Option Value) (v1 v2 : Value) (b : Nat) (st : List Value) (σ : sS) (hc : cats st ≤ 8) (hb : isOb σ.1 b 7 = true), Rx E d 277 5 [l0, l1, l2, l3, l4] (v2 :: v1 :: .ref b :: st) σ = fin E d 277 (sRet gm277 5 [l0, l1, l2, l3, l4] st (Mt E d 112 [.ref b, v1, v2] σ))) ∧
  (∀ (E : sV) (d : Nat) (l0 l1 l2 l3 l4 : Option Value) (x : Int32) (st : List Value) (σ : sS), Rx E d 277 8 [l0, l1, l2, l3, l4] (.int x :: st) σ = Rx E d 277 9 [l0, l1, l2, l3, l4] (.long x.toInt64 :: st) σ) ∧
  (∀ (E : sV) (d : Nat) (l0 l1 l2 l3 l4 : Option Value) (x : Int64) (i : Int32) (a : Nat) (st : List Value) (σ : sS), Rx E d 277 9 [l0, l1, l2, l3, l4] (.long x :: .int i :: .ref a :: st) σ = if E.1 ≤ a then (astL σ.1 a i x).bind (fun h => Rx E d 277 10 [l0, l1, l2, l3, l4] st (h, σ.2)) else none) ∧
  (∀ (E : sV) (d : Nat) (l0 l1 l2 l3 l4 : Option Value) (st : List Value) (σ : sS), Rx E d 277 10 [l0, l1, l2, l3, l4] st σ = Rx E d 277 21 [l0, l1, l2, l3, l4] st σ) ∧
  (∀ (E : sV) (d : Nat) (l0 l1 l2 l3 l4 : Option Value) (x : Nat) (st : List Value) (σ : sS), Rx E d 277 13 [l0, l1, l2, l3, l4] (.ref x :: st) σ = Rx E d 277 15 [l0, l1, l2, ldrop l3, some (.ref x)] st σ) ∧
  (∀ (E : sV) (d : Nat) (l0 l1 l2 l3 l4 : Option Value) (st : List Value) (σ : sS), Rx E d 277 13 [l0, l1, l2, l3, l4] (.null :: st) σ = Rx E d 277 15 [l0, l1, l2, ldrop l3, some (.null)] st σ) ∧
  (∀ (E : sV) (d : Nat) (l0 l1 l2 l3 l4 : Option Value) (st : List Value) (σ : sS), Rx E d 277 15 [l0, l1, l2, l3, l4] st σ = Rx E d 277 16 [l0, l1, l2, l3, l4] (.int (1) :: st) σ) ∧
  (∀ (E : sV) (d : Nat) (l0 l1 l2 l3 l4 : Option Value) (v : Int32) (σ : sS), Rx E d 277 16 [l0, l1, l2, l3, l4] [.int v] σ = some (.inl (some (.int v)), σ)) ∧
  (∀ (E : sV) (d : Nat) (l0 l1 l2 l3 l4 : Option Value) (x : Nat) (st : List Value) (σ : sS), Rx E d 277 17 [l0, l1, l2, l3, l4] (.ref x :: st) σ = Rx E d 277 19 [l0, l1, l2, ldrop l3, some (.ref x)] st σ) ∧
  (∀ (E : sV) (d : Nat) (l0 l1 l2 l3 l4 : Option Value) (st : List Value) (σ : sS), Rx E d 277 17 [l0, l1, l2, l3, l4] (.null :: st) σ = Rx E d 277 19 [l0, l1, l2, ldrop l3, some (.null)] st σ) ∧
  (∀ (E : sV) (d : Nat) (l0 l1 l2 l3 l4 : Option Value) (st : List Value) (σ : sS), Rx E d 277 19 [l0, l1, l2, l3, l4] st σ = Rx E d 277 20 [l0, l1, l2, l3, l4] (.int (2) :: st) σ) ∧
  (∀ (E : sV) (d : Nat) (l0 l1 l2 l3 l4 : Option Value) (v : Int32) (σ : sS), Rx E d 277 20 [l0, l1, l2, l3, l4] [.int v] σ = some (.inl (some (.int v)), σ)) ∧
  (∀ (E : sV) (d : Nat) (l0 l1 l2 l3 l4 : Option Value) (st : List Value) (σ : sS), Rx E d 277 21 [l0, l1, l2, l3, l4] st σ = Rx E d 277 22 [l0, l1, l2, l3, l4] (.int (0) :: st) σ) ∧
  (∀ (E : sV) (d : Nat) (l0 l1 l2 l3 l4 : Option Value) (v : Int32) (σ : sS), Rx E d 277 22 [l0, l1, l2, l3, l4] [.int v] σ = some (.inl (some (.int v)), σ)) := ⟨fun _ _ _ _ _ _ _ _ _ => Rx_of gMT_277 d277_0 rfl,
  fun _ _ _ _ _ _ _ _ => Rx_of gMT_277 d277_0 rfl,
  fun _ _ _ _ _ _ _ _ _ => Rx_of gMT_277 d277_1 rfl,
  fun _ _ _ _ _ _ _ _ _ => Rx_of gMT_277 d277_2 rfl,
  fun _ _ _ _ _ _ _ _ => Rx_of gMT_277 d277_2 rfl,
  fun _ _ _ _ _ _ _ _ _ => Rx_of gMT_277 d277_3 rfl,
  fun _ _ _ _ _ _ _ _ _ => Rx_of gMT_277 d277_4 rfl,
  fun _ _ _ _ _ _ _ _ _ _ _ _ hc hb => Rx_callW gMT_277 d277_5 rfl rfl rfl rfl hc hb,
  fun _ _ _ _ _ _ _ _ _ _ => Rx_of gMT_277 d277_8 rfl,
  fun _ _ _ _ _ _ _ _ _ _ _ _ => Rx_ast gMT_277 d277_9 rfl rfl,
  fun _ _ _ _ _ _ _ _ _ => Rx_goto gMT_277 d277_10 rfl (by decide),
  fun _ _ _ _ _ _ _ _ _ _ => Rx_of gMT_277 d277_13 rfl,
  fun _ _ _ _ _ _ _ _ _ => Rx_of gMT_277 d277_13 rfl,
  fun _ _ _ _ _ _ _ _ _ => Rx_of gMT_277 d277_15 rfl,
  fun _ _ _ _ _ _ _ _ _ => Rx_iretI gMT_277 d277_16 rfl rfl,
  fun _ _ _ _ _ _ _ _ _ _ => Rx_of gMT_277 d277_17 rfl,
  fun _ _ _ _ _ _ _ _ _ => Rx_of gMT_277 d277_17 rfl,
  fun _ _ _ _ _ _ _ _ _ => Rx_of gMT_277 d277_19 rfl,
  fun _ _ _ _ _ _ _ _ _ => Rx_iretI gMT_277 d277_20 rfl rfl,
  fun _ _ _ _ _ _ _ _ _ => Rx_of gMT_277 d277_21 rfl,
  fun _ _ _ _ _ _ _ _ _ => Rx_iretI gMT_277 d277_22 rfl rfl⟩
-- QLaw_planned: QLaw_planned_0
theorem NLaw_planned (E : sV) (d : Nat) (a0 : Nat) (a1 : Int32) (a2 : Int32) (a3 : Nat) (σ : sS) : Mt E (d + 1) 277 [.ref a0, .int a1, .int a2, .ref a3] σ = Rx E d 277 0 [some (.ref a0), some (.int a1), some (.int a2), some (.ref a3), none] [] σ := Mt_succ gMT_277 (Nat.le_of_ble_eq_true rfl)
theorem QLaw_earnings_0 : (∀ (E : sV) (d : Nat) (l0 : Option Value) (l1 : Option Value) (l3 : Option Value) (x : Nat) (st : List Value) (σ : sS), Rx E d 278 0 [l0, l1, some (.ref x), l3] st σ = Rx E d 278 1 [l0, l1, some (.ref x), l3] (.ref x :: st) σ) ∧
  (∀ (E : sV) (d : Nat) (l0 : Option Value) (l1 : Option Value) (l3 : Option Value) (st : List Value) (σ : sS), Rx E d 278 0 [l0, l1, some (.null), l3] st σ = Rx E d 278 1 [l0, l1, some (.null), l3] (.null :: st) σ) ∧
  (∀ (E : sV) (d : Nat) (l0 l1 l2 l3 : Option Value) (st : List Value) (σ : sS), Rx E d 278 1 [l0, l1, l2, l3] st σ = Rx E d 278 2 [l0, l1, l2, l3] (.int (0) :: st) σ) ∧
  (∀ (E : sV) (d : Nat) (l1 : Option Value) (l2 : Option Value) (l3 : Option Value) (x : Nat) (st : List Value) (σ : sS), Rx E d 278 2 [some (.ref x), l1, l2, l3] st σ = Rx E d 278 3 [some (.ref x), l1, l2, l3] (.ref x :: st) σ) ∧
  (∀ (E : sV) (d : Nat) (l1 : Option Value) (l2 : Option Value) (l3 : Option Value) (st : List Value) (σ : sS), Rx E d 278 2 [some (.null), l1, l2, l3] st σ = Rx E d 278 3 [some (.null), l1, l2, l3] (.null :: st) σ) ∧
  (∀ (E : sV) (d : Nat) (l0 : Option Value) (l2 : Option Value) (l3 : Option Value) (x : Int32) (st : List Value) (σ : sS), Rx E d 278 3 [l0, some (.int x), l2, l3] st σ = Rx E d 278 4 [l0, some (.int x), l2, l3] (.int x :: st) σ) ∧
  (∀ (E : sV) (d : Nat) (l0 l1 l2 l3 : Option Value) (v1 : Value) (b : Nat) (st : List Value) (σ : sS) (hc : cats st ≤ 8) (hb : isOb σ.1 b 7 = true), Rx E d 278 4 [l0, l1, l2, l3] (v1 :: .ref b :: st) σ = fin E d 278 (sRet gm278 4 [l0, l1, l2, l3] st (Mt E d 113 [.ref b, v1] σ))) ∧
  (∀ (E : sV) (d : Nat) (l0 l1 l2 l3 : Option Value) (x : Int32) (st : List Value) (σ : sS), Rx E d 278 7 [l0, l1, l2, l3] (.int x :: st) σ = Rx E d 278 8 [l0, l1, l2, l3] (.long x.toInt64 :: st) σ) ∧
  (∀ (E : sV) (d : Nat) (l0 l1 l2 l3 : Option Value) (x : Int64) (i : Int32) (a : Nat) (st : List Value) (σ : sS), Rx E d 278 8 [l0, l1, l2, l3] (.long x :: .int i :: .ref a :: st) σ = if E.1 ≤ a then (astL σ.1 a i x).bind (fun h => Rx E d 278 9 [l0, l1, l2, l3] st (h, σ.2)) else none) ∧
  (∀ (E : sV) (d : Nat) (l0 l1 l2 l3 : Option Value) (st : List Value) (σ : sS), Rx E d 278 9 [l0, l1, l2, l3] st σ = Rx E d 278 15 [l0, l1, l2, l3] st σ) ∧
  (∀ (E : sV) (d : Nat) (l0 l1 l2 l3 : Option Value) (x : Nat) (st : List Value) (σ : sS), Rx E d 278 12 [l0, l1, l2, l3] (.ref x :: st) σ = Rx E d 278 13 [l0, l1, ldrop l2, some (.ref x)] st σ) ∧
  (∀ (E : sV) (d : Nat) (l0 l1 l2 l3 : Option Value) (st : List Value) (σ : sS), Rx E d 278 12 [l0, l1, l2, l3] (.null :: st) σ = Rx E d 278 13 [l0, l1, ldrop l2, some (.null)] st σ) ∧
  (∀ (E : sV) (d : Nat) (l0 l1 l2 l3 : Option Value) (st : List Value) (σ : sS), Rx E d 278 13 [l0, l1, l2, l3] st σ = Rx E d 278 14 [l0, l1, l2, l3] (.int (1) :: st) σ) ∧
  (∀ (E : sV) (d : Nat) (l0 l1 l2 l3 : Option Value) (v : Int32) (σ : sS), Rx E d 278 14 [l0, l1, l2, l3] [.int v] σ = some (.inl (some (.int v)), σ)) ∧
  (∀ (E : sV) (d : Nat) (l0 l1 l2 l3 : Option Value) (st : List Value) (σ : sS), Rx E d 278 15 [l0, l1, l2, l3] st σ = Rx E d 278 16 [l0, l1, l2, l3] (.int (0) :: st) σ) ∧
  (∀ (E : sV) (d : Nat) (l0 l1 l2 l3 : Option Value) (v : Int32) (σ : sS), Rx E d 278 16 [l0, l1, l2, l3] [.int v] σ = some (.inl (some (.int v)), σ)) := ⟨fun _ _ _ _ _ _ _ _ => Rx_of gMT_278 d278_0 rfl,
  fun _ _ _ _ _ _ _ => Rx_of gMT_278 d278_0 rfl,
  fun _ _ _ _ _ _ _ _ => Rx_of gMT_278 d278_1 rfl,
  fun _ _ _ _ _ _ _ _ => Rx_of gMT_278 d278_2 rfl,
  fun _ _ _ _ _ _ _ => Rx_of gMT_278 d278_2 rfl,
  fun _ _ _ _ _ _ _ _ => Rx_of gMT_278 d278_3 rfl,
  fun _ _ _ _ _ _ _ _ _ _ hc hb => Rx_callW gMT_278 d278_4 rfl rfl rfl rfl hc hb,
  fun _ _ _ _ _ _ _ _ _ => Rx_of gMT_278 d278_7 rfl,
  fun _ _ _ _ _ _ _ _ _ _ _ => Rx_ast gMT_278 d278_8 rfl rfl,
  fun _ _ _ _ _ _ _ _ => Rx_goto gMT_278 d278_9 rfl (by decide),
  fun _ _ _ _ _ _ _ _ _ => Rx_of gMT_278 d278_12 rfl,
  fun _ _ _ _ _ _ _ _ => Rx_of gMT_278 d278_12 rfl,
  fun _ _ _ _ _ _ _ _ => Rx_of gMT_278 d278_13 rfl,
  fun _ _ _ _ _ _ _ _ => Rx_iretI gMT_278 d278_14 rfl rfl,
  fun _ _ _ _ _ _ _ _ => Rx_of gMT_278 d278_15 rfl,
  fun _ _ _ _ _ _ _ _ => Rx_iretI gMT_278 d278_16 rfl rfl⟩
-- QLaw_earnings: QLaw_earnings_0
theorem NLaw_earnings (E : sV) (d : Nat) (a0 : Nat) (a1 : Int32) (a2 : Nat) (σ : sS) : Mt E (d + 1) 278 [.ref a0, .int a1, .ref a2] σ = Rx E d 278 0 [some (.ref a0), some (.int a1), some (.ref a2), none] [] σ := Mt_succ gMT_278 (Nat.le_of_ble_eq_true rfl)
theorem QLaw_meanLateness_0 : (∀ (E : sV) (d : Nat) (l0 : Option Value) (l2 : Option Value) (x : Nat) (st : List Value) (σ : sS), Rx E d 279 0 [l0, some (.ref x), l2] st σ = Rx E d 279 1 [l0, some (.ref x), l2] (.ref x :: st) σ) ∧
  (∀ (E : sV) (d : Nat) (l0 : Option Value) (l2 : Option Value) (st : List Value) (σ : sS), Rx E d 279 0 [l0, some (.null), l2] st σ = Rx E d 279 1 [l0, some (.null), l2] (.null :: st) σ) ∧
  (∀ (E : sV) (d : Nat) (l0 l1 l2 : Option Value) (st : List Value) (σ : sS), Rx E d 279 1 [l0, l1, l2] st σ = Rx E d 279 2 [l0, l1, l2] (.int (0) :: st) σ) ∧
  (∀ (E : sV) (d : Nat) (l1 : Option Value) (l2 : Option Value) (x : Nat) (st : List Value) (σ : sS), Rx E d 279 2 [some (.ref x), l1, l2] st σ = Rx E d 279 3 [some (.ref x), l1, l2] (.ref x :: st) σ) ∧
  (∀ (E : sV) (d : Nat) (l1 : Option Value) (l2 : Option Value) (st : List Value) (σ : sS), Rx E d 279 2 [some (.null), l1, l2] st σ = Rx E d 279 3 [some (.null), l1, l2] (.null :: st) σ) ∧
  (∀ (E : sV) (d : Nat) (l0 l1 l2 : Option Value) (b : Nat) (st : List Value) (σ : sS) (hc : cats st ≤ 8) (hb : isOb σ.1 b 7 = true), Rx E d 279 3 [l0, l1, l2] (.ref b :: st) σ = fin E d 279 (sRet gm279 3 [l0, l1, l2] st (Mt E d 114 [.ref b] σ))) ∧
  (∀ (E : sV) (d : Nat) (l0 l1 l2 : Option Value) (x : UInt64) (i : Int32) (a : Nat) (st : List Value) (σ : sS), Rx E d 279 6 [l0, l1, l2] (.double x :: .int i :: .ref a :: st) σ = if E.1 ≤ a then (astD σ.1 a i x).bind (fun h => Rx E d 279 7 [l0, l1, l2] st (h, σ.2)) else none) ∧
  (∀ (E : sV) (d : Nat) (l0 l1 l2 : Option Value) (st : List Value) (σ : sS), Rx E d 279 7 [l0, l1, l2] st σ = Rx E d 279 13 [l0, l1, l2] st σ) ∧
  (∀ (E : sV) (d : Nat) (l0 l1 l2 : Option Value) (x : Nat) (st : List Value) (σ : sS), Rx E d 279 10 [l0, l1, l2] (.ref x :: st) σ = Rx E d 279 11 [l0, ldrop l1, some (.ref x)] st σ) ∧
  (∀ (E : sV) (d : Nat) (l0 l1 l2 : Option Value) (st : List Value) (σ : sS), Rx E d 279 10 [l0, l1, l2] (.null :: st) σ = Rx E d 279 11 [l0, ldrop l1, some (.null)] st σ) ∧
  (∀ (E : sV) (d : Nat) (l0 l1 l2 : Option Value) (st : List Value) (σ : sS), Rx E d 279 11 [l0, l1, l2] st σ = Rx E d 279 12 [l0, l1, l2] (.int (1) :: st) σ) ∧
  (∀ (E : sV) (d : Nat) (l0 l1 l2 : Option Value) (v : Int32) (σ : sS), Rx E d 279 12 [l0, l1, l2] [.int v] σ = some (.inl (some (.int v)), σ)) ∧
  (∀ (E : sV) (d : Nat) (l0 l1 l2 : Option Value) (st : List Value) (σ : sS), Rx E d 279 13 [l0, l1, l2] st σ = Rx E d 279 14 [l0, l1, l2] (.int (0) :: st) σ) ∧
  (∀ (E : sV) (d : Nat) (l0 l1 l2 : Option Value) (v : Int32) (σ : sS), Rx E d 279 14 [l0, l1, l2] [.int v] σ = some (.inl (some (.int v)), σ)) := ⟨fun _ _ _ _ _ _ _ => Rx_of gMT_279 d279_0 rfl,
  fun _ _ _ _ _ _ => Rx_of gMT_279 d279_0 rfl,
  fun _ _ _ _ _ _ _ => Rx_of gMT_279 d279_1 rfl,
  fun _ _ _ _ _ _ _ => Rx_of gMT_279 d279_2 rfl,
  fun _ _ _ _ _ _ => Rx_of gMT_279 d279_2 rfl,
  fun _ _ _ _ _ _ _ _ hc hb => Rx_callW gMT_279 d279_3 rfl rfl rfl rfl hc hb,
  fun _ _ _ _ _ _ _ _ _ _ => Rx_ast gMT_279 d279_6 rfl rfl,
  fun _ _ _ _ _ _ _ => Rx_goto gMT_279 d279_7 rfl (by decide),
  fun _ _ _ _ _ _ _ _ => Rx_of gMT_279 d279_10 rfl,
  fun _ _ _ _ _ _ _ => Rx_of gMT_279 d279_10 rfl,
  fun _ _ _ _ _ _ _ => Rx_of gMT_279 d279_11 rfl,
  fun _ _ _ _ _ _ _ => Rx_iretI gMT_279 d279_12 rfl rfl,
  fun _ _ _ _ _ _ _ => Rx_of gMT_279 d279_13 rfl,
  fun _ _ _ _ _ _ _ => Rx_iretI gMT_279 d279_14 rfl rfl⟩
-- QLaw_meanLateness: QLaw_meanLateness_0
theorem NLaw_meanLateness (E : sV) (d : Nat) (a0 : Nat) (a1 : Nat) (σ : sS) : Mt E (d + 1) 279 [.ref a0, .ref a1] σ = Rx E d 279 0 [some (.ref a0), some (.ref a1), none] [] σ := Mt_succ gMT_279 (Nat.le_of_ble_eq_true rfl)
theorem QLaw_barrowByEarnings_0 : (∀ (E : sV) (d : Nat) (l0 : Option Value) (l1 : Option Value) (l3 : Option Value) (x : Nat) (st : List Value) (σ : sS), Rx E d 280 0 [l0, l1, some (.ref x), l3] st σ = Rx E d 280 1 [l0, l1, some (.ref x), l3] (.ref x :: st) σ) ∧
  (∀ (E : sV) (d : Nat) (l0 : Option Value) (l1 : Option Value) (l3 : Option Value) (st : List Value) (σ : sS), Rx E d 280 0 [l0, l1, some (.null), l3] st σ = Rx E d 280 1 [l0, l1, some (.null), l3] (.null :: st) σ) ∧
  (∀ (E : sV) (d : Nat) (l0 l1 l2 l3 : Option Value) (st : List Value) (σ : sS), Rx E d 280 1 [l0, l1, l2, l3] st σ = Rx E d 280 2 [l0, l1, l2, l3] (.int (0) :: st) σ) ∧
  (∀ (E : sV) (d : Nat) (l1 : Option Value) (l2 : Option Value) (l3 : Option Value) (x : Nat) (st : List Value) (σ : sS), Rx E d 280 2 [some (.ref x), l1, l2, l3] st σ = Rx E d 280 3 [some (.ref x), l1, l2, l3] (.ref x :: st) σ) ∧
  (∀ (E : sV) (d : Nat) (l1 : Option Value) (l2 : Option Value) (l3 : Option Value) (st : List Value) (σ : sS), Rx E d 280 2 [some (.null), l1, l2, l3] st σ = Rx E d 280 3 [some (.null), l1, l2, l3] (.null :: st) σ) ∧
  (∀ (E : sV) (d : Nat) (l0 : Option Value) (l2 : Option Value) (l3 : Option Value) (x : Int32) (st : List Value) (σ : sS), Rx E d 280 3 [l0, some (.int x), l2, l3] st σ = Rx E d 280 4 [l0, some (.int x), l2, l3] (.int x :: st) σ) ∧
  (∀ (E : sV) (d : Nat) (l0 l1 l2 l3 : Option Value) (v1 : Value) (b : Nat) (st : List Value) (σ : sS) (hc : cats st ≤ 8) (hb : isOb σ.1 b 7 = true), Rx E d 280 4 [l0, l1, l2, l3] (v1 :: .ref b :: st) σ = fin E d 280 (sRet gm280 4 [l0, l1, l2, l3] st (Mt E d 115 [.ref b, v1] σ))) ∧
  (∀ (E : sV) (d : Nat) (l0 l1 l2 l3 : Option Value) (x : Int32) (st : List Value) (σ : sS), Rx E d 280 7 [l0, l1, l2, l3] (.int x :: st) σ = Rx E d 280 8 [l0, l1, l2, l3] (.long x.toInt64 :: st) σ) ∧
  (∀ (E : sV) (d : Nat) (l0 l1 l2 l3 : Option Value) (x : Int64) (i : Int32) (a : Nat) (st : List Value) (σ : sS), Rx E d 280 8 [l0, l1, l2, l3] (.long x :: .int i :: .ref a :: st) σ = if E.1 ≤ a then (astL σ.1 a i x).bind (fun h => Rx E d 280 9 [l0, l1, l2, l3] st (h, σ.2)) else none) ∧
  (∀ (E : sV) (d : Nat) (l0 l1 l2 l3 : Option Value) (st : List Value) (σ : sS), Rx E d 280 9 [l0, l1, l2, l3] st σ = Rx E d 280 15 [l0, l1, l2, l3] st σ) ∧
  (∀ (E : sV) (d : Nat) (l0 l1 l2 l3 : Option Value) (x : Nat) (st : List Value) (σ : sS), Rx E d 280 12 [l0, l1, l2, l3] (.ref x :: st) σ = Rx E d 280 13 [l0, l1, ldrop l2, some (.ref x)] st σ) ∧
  (∀ (E : sV) (d : Nat) (l0 l1 l2 l3 : Option Value) (st : List Value) (σ : sS), Rx E d 280 12 [l0, l1, l2, l3] (.null :: st) σ = Rx E d 280 13 [l0, l1, ldrop l2, some (.null)] st σ) ∧
  (∀ (E : sV) (d : Nat) (l0 l1 l2 l3 : Option Value) (st : List Value) (σ : sS), Rx E d 280 13 [l0, l1, l2, l3] st σ = Rx E d 280 14 [l0, l1, l2, l3] (.int (1) :: st) σ) ∧
  (∀ (E : sV) (d : Nat) (l0 l1 l2 l3 : Option Value) (v : Int32) (σ : sS), Rx E d 280 14 [l0, l1, l2, l3] [.int v] σ = some (.inl (some (.int v)), σ)) ∧
  (∀ (E : sV) (d : Nat) (l0 l1 l2 l3 : Option Value) (st : List Value) (σ : sS), Rx E d 280 15 [l0, l1, l2, l3] st σ = Rx E d 280 16 [l0, l1, l2, l3] (.int (0) :: st) σ) ∧
  (∀ (E : sV) (d : Nat) (l0 l1 l2 l3 : Option Value) (v : Int32) (σ : sS), Rx E d 280 16 [l0, l1, l2, l3] [.int v] σ = some (.inl (some (.int v)), σ)) := ⟨fun _ _ _ _ _ _ _ _ => Rx_of gMT_280 d280_0 rfl,
  fun _ _ _ _ _ _ _ => Rx_of gMT_280 d280_0 rfl,
  fun _ _ _ _ _ _ _ _ => Rx_of gMT_280 d280_1 rfl,
  fun _ _ _ _ _ _ _ _ => Rx_of gMT_280 d280_2 rfl,
  fun _ _ _ _ _ _ _ => Rx_of gMT_280 d280_2 rfl,
  fun _ _ _ _ _ _ _ _ => Rx_of gMT_280 d280_3 rfl,
  fun _ _ _ _ _ _ _ _ _ _ hc hb => Rx_callW gMT_280 d280_4 rfl rfl rfl rfl hc hb,
  fun _ _ _ _ _ _ _ _ _ => Rx_of gMT_280 d280_7 rfl,
  fun _ _ _ _ _ _ _ _ _ _ _ => Rx_ast gMT_280 d280_8 rfl rfl,
  fun _ _ _ _ _ _ _ _ => Rx_goto gMT_280 d280_9 rfl (by decide),
  fun _ _ _ _ _ _ _ _ _ => Rx_of gMT_280 d280_12 rfl,
  fun _ _ _ _ _ _ _ _ => Rx_of gMT_280 d280_12 rfl,
  fun _ _ _ _ _ _ _ _ => Rx_of gMT_280 d280_13 rfl,
  fun _ _ _ _ _ _ _ _ => Rx_iretI gMT_280 d280_14 rfl rfl,
  fun _ _ _ _ _ _ _ _ => Rx_of gMT_280 d280_15 rfl,
  fun _ _ _ _ _ _ _ _ => Rx_iretI gMT_280 d280_16 rfl rfl⟩
-- QLaw_barrowByEarnings: QLaw_barrowByEarnings_0
theorem NLaw_barrowByEarnings (E : sV) (d : Nat) (a0 : Nat) (a1 : Int32) (a2 : Nat) (σ : sS) : Mt E (d + 1) 280 [.ref a0, .int a1, .ref a2] σ = Rx E d 280 0 [some (.ref a0), some (.int a1), some (.ref a2), none] [] σ := Mt_succ gMT_280 (Nat.le_of_ble_eq_true rfl)
theorem QLaw_writeBarrow_0 : (∀ (E : sV) (d : Nat) (l0 : Option Value) (l1 : Option Value) (l3 : Option Value) (x : Nat) (st : List Value) (σ : sS), Rx E d 281 0 [l0, l1, some (.ref x), l3] st σ = Rx E d 281 1 [l0, l1, some (.ref x), l3] (.ref x :: st) σ) ∧
  (∀ (E : sV) (d : Nat) (l0 : Option Value) (l1 : Option Value) (l3 : Option Value) (st : List Value) (σ : sS), Rx E d 281 0 [l0, l1, some (.null), l3] st σ = Rx E d 281 1 [l0, l1, some (.null), l3] (.null :: st) σ) ∧
  (∀ (E : sV) (d : Nat) (l0 l1 l2 l3 : Option Value) (st : List Value) (σ : sS), Rx E d 281 1 [l0, l1, l2, l3] st σ = Rx E d 281 2 [l0, l1, l2, l3] (.int (0) :: st) σ) ∧
  (∀ (E : sV) (d : Nat) (l1 : Option Value) (l2 : Option Value) (l3 : Option Value) (x : Nat) (st : List Value) (σ : sS), Rx E d 281 2 [some (.ref x), l1, l2, l3] st σ = Rx E d 281 3 [some (.ref x), l1, l2, l3] (.ref x :: st) σ) ∧
  (∀ (E : sV) (d : Nat) (l1 : Option Value) (l2 : Option Value) (l3 : Option Value) (st : List Value) (σ : sS), Rx E d 281 2 [some (.null), l1, l2, l3] st σ = Rx E d 281 3 [some (.null), l1, l2, l3] (.null :: st) σ) ∧
  (∀ (E : sV) (d : Nat) (l0 : Option Value) (l2 : Option Value) (l3 : Option Value) (x : Int32) (st : List Value) (σ : sS), Rx E d 281 3 [l0, some (.int x), l2, l3] st σ = Rx E d 281 4 [l0, some (.int x), l2, l3] (.int x :: st) σ) ∧
  (∀ (E : sV) (d : Nat) (l0 l1 l2 l3 : Option Value) (v1 : Value) (b : Nat) (st : List Value) (σ : sS) (hc : cats st ≤ 8) (hb : isOb σ.1 b 7 = true), Rx E d 281 4 [l0, l1, l2, l3] (v1 :: .ref b :: st) σ = fin E d 281 (sRet gm281 4 [l0, l1, l2, l3] st (Mt E d 116 [.ref b, v1] σ))) ∧
  (∀ (E : sV) (d : Nat) (l0 l1 l2 l3 : Option Value) (x : Int32) (st : List Value) (σ : sS), Rx E d 281 7 [l0, l1, l2, l3] (.int x :: st) σ = Rx E d 281 8 [l0, l1, l2, l3] (.long x.toInt64 :: st) σ) ∧
  (∀ (E : sV) (d : Nat) (l0 l1 l2 l3 : Option Value) (x : Int64) (i : Int32) (a : Nat) (st : List Value) (σ : sS), Rx E d 281 8 [l0, l1, l2, l3] (.long x :: .int i :: .ref a :: st) σ = if E.1 ≤ a then (astL σ.1 a i x).bind (fun h => Rx E d 281 9 [l0, l1, l2, l3] st (h, σ.2)) else none) ∧
  (∀ (E : sV) (d : Nat) (l0 l1 l2 l3 : Option Value) (st : List Value) (σ : sS), Rx E d 281 9 [l0, l1, l2, l3] st σ = Rx E d 281 15 [l0, l1, l2, l3] st σ) ∧
  (∀ (E : sV) (d : Nat) (l0 l1 l2 l3 : Option Value) (x : Nat) (st : List Value) (σ : sS), Rx E d 281 12 [l0, l1, l2, l3] (.ref x :: st) σ = Rx E d 281 13 [l0, l1, ldrop l2, some (.ref x)] st σ) ∧
  (∀ (E : sV) (d : Nat) (l0 l1 l2 l3 : Option Value) (st : List Value) (σ : sS), Rx E d 281 12 [l0, l1, l2, l3] (.null :: st) σ = Rx E d 281 13 [l0, l1, ldrop l2, some (.null)] st σ) ∧
  (∀ (E : sV) (d : Nat) (l0 l1 l2 l3 : Option Value) (st : List Value) (σ : sS), Rx E d 281 13 [l0, l1, l2, l3] st σ = Rx E d 281 14 [l0, l1, l2, l3] (.int (1) :: st) σ) ∧
  (∀ (E : sV) (d : Nat) (l0 l1 l2 l3 : Option Value) (v : Int32) (σ : sS), Rx E d 281 14 [l0, l1, l2, l3] [.int v] σ = some (.inl (some (.int v)), σ)) ∧
  (∀ (E : sV) (d : Nat) (l0 l1 l2 l3 : Option Value) (st : List Value) (σ : sS), Rx E d 281 15 [l0, l1, l2, l3] st σ = Rx E d 281 16 [l0, l1, l2, l3] (.int (0) :: st) σ) ∧
  (∀ (E : sV) (d : Nat) (l0 l1 l2 l3 : Option Value) (v : Int32) (σ : sS), Rx E d 281 16 [l0, l1, l2, l3] [.int v] σ = some (.inl (some (.int v)), σ)) := ⟨fun _ _ _ _ _ _ _ _ => Rx_of gMT_281 d281_0 rfl,
  fun _ _ _ _ _ _ _ => Rx_of gMT_281 d281_0 rfl,
  fun _ _ _ _ _ _ _ _ => Rx_of gMT_281 d281_1 rfl,
  fun _ _ _ _ _ _ _ _ => Rx_of gMT_281 d281_2 rfl,
  fun _ _ _ _ _ _ _ => Rx_of gMT_281 d281_2 rfl,
  fun _ _ _ _ _ _ _ _ => Rx_of gMT_281 d281_3 rfl,
  fun _ _ _ _ _ _ _ _ _ _ hc hb => Rx_callW gMT_281 d281_4 rfl rfl rfl rfl hc hb,
  fun _ _ _ _ _ _ _ _ _ => Rx_of gMT_281 d281_7 rfl,
  fun _ _ _ _ _ _ _ _ _ _ _ => Rx_ast gMT_281 d281_8 rfl rfl,
  fun _ _ _ _ _ _ _ _ => Rx_goto gMT_281 d281_9 rfl (by decide),
  fun _ _ _ _ _ _ _ _ _ => Rx_of gMT_281 d281_12 rfl,
  fun _ _ _ _ _ _ _ _ => Rx_of gMT_281 d281_12 rfl,
  fun _ _ _ _ _ _ _ _ => Rx_of gMT_281 d281_13 rfl,
  fun _ _ _ _ _ _ _ _ => Rx_iretI gMT_281 d281_14 rfl rfl,
  fun _ _ _ _ _ _ _ _ => Rx_of gMT_281 d281_15 rfl,
  fun _ _ _ _ _ _ _ _ => Rx_iretI gMT_281 d281_16 rfl rfl⟩
-- QLaw_writeBarrow: QLaw_writeBarrow_0
theorem NLaw_writeBarrow (E : sV) (d : Nat) (a0 : Nat) (a1 : Int32) (a2 : Nat) (σ : sS) : Mt E (d + 1) 281 [.ref a0, .int a1, .ref a2] σ = Rx E d 281 0 [some (.ref a0), some (.int a1), some (.ref a2), none] [] σ := Mt_succ gMT_281 (Nat.le_of_ble_eq_true rfl)
theorem QLaw_writePlan_0 : (∀ (E : sV) (d : Nat) (l0 : Option Value) (l1 : Option Value) (l3 : Option Value) (x : Nat) (st : List Value) (σ : sS), Rx E d 282 0 [l0, l1, some (.ref x), l3] st σ = Rx E d 282 1 [l0, l1, some (.ref x), l3] (.ref x :: st) σ) ∧
  (∀ (E : sV) (d : Nat) (l0 : Option Value) (l1 : Option Value) (l3 : Option Value) (st : List Value) (σ : sS), Rx E d 282 0 [l0, l1, some (.null), l3] st σ = Rx E d 282 1 [l0, l1, some (.null), l3] (.null :: st) σ) ∧
  (∀ (E : sV) (d : Nat) (l0 l1 l2 l3 : Option Value) (st : List Value) (σ : sS), Rx E d 282 1 [l0, l1, l2, l3] st σ = Rx E d 282 2 [l0, l1, l2, l3] (.int (0) :: st) σ) ∧
  (∀ (E : sV) (d : Nat) (l1 : Option Value) (l2 : Option Value) (l3 : Option Value) (x : Nat) (st : List Value) (σ : sS), Rx E d 282 2 [some (.ref x), l1, l2, l3] st σ = Rx E d 282 3 [some (.ref x), l1, l2, l3] (.ref x :: st) σ) ∧
  (∀ (E : sV) (d : Nat) (l1 : Option Value) (l2 : Option Value) (l3 : Option Value) (st : List Value) (σ : sS), Rx E d 282 2 [some (.null), l1, l2, l3] st σ = Rx E d 282 3 [some (.null), l1, l2, l3] (.null :: st) σ) ∧
  (∀ (E : sV) (d : Nat) (l0 : Option Value) (l2 : Option Value) (l3 : Option Value) (x : Int32) (st : List Value) (σ : sS), Rx E d 282 3 [l0, some (.int x), l2, l3] st σ = Rx E d 282 4 [l0, some (.int x), l2, l3] (.int x :: st) σ) ∧
  (∀ (E : sV) (d : Nat) (l0 l1 l2 l3 : Option Value) (v1 : Value) (b : Nat) (st : List Value) (σ : sS) (hc : cats st ≤ 8) (hb : isOb σ.1 b 7 = true), Rx E d 282 4 [l0, l1, l2, l3] (v1 :: .ref b :: st) σ = fin E d 282 (sRet gm282 4 [l0, l1, l2, l3] st (Mt E d 117 [.ref b, v1] σ))) ∧
  (∀ (E : sV) (d : Nat) (l0 l1 l2 l3 : Option Value) (x : Int32) (st : List Value) (σ : sS), Rx E d 282 7 [l0, l1, l2, l3] (.int x :: st) σ = Rx E d 282 8 [l0, l1, l2, l3] (.long x.toInt64 :: st) σ) ∧
  (∀ (E : sV) (d : Nat) (l0 l1 l2 l3 : Option Value) (x : Int64) (i : Int32) (a : Nat) (st : List Value) (σ : sS), Rx E d 282 8 [l0, l1, l2, l3] (.long x :: .int i :: .ref a :: st) σ = if E.1 ≤ a then (astL σ.1 a i x).bind (fun h => Rx E d 282 9 [l0, l1, l2, l3] st (h, σ.2)) else none) ∧
  (∀ (E : sV) (d : Nat) (l0 l1 l2 l3 : Option Value) (st : List Value) (σ : sS), Rx E d 282 9 [l0, l1, l2, l3] st σ = Rx E d 282 15 [l0, l1, l2, l3] st σ) ∧
  (∀ (E : sV) (d : Nat) (l0 l1 l2 l3 : Option Value) (x : Nat) (st : List Value) (σ : sS), Rx E d 282 12 [l0, l1, l2, l3] (.ref x :: st) σ = Rx E d 282 13 [l0, l1, ldrop l2, some (.ref x)] st σ) ∧
  (∀ (E : sV) (d : Nat) (l0 l1 l2 l3 : Option Value) (st : List Value) (σ : sS), Rx E d 282 12 [l0, l1, l2, l3] (.null :: st) σ = Rx E d 282 13 [l0, l1, ldrop l2, some (.null)] st σ) ∧
  (∀ (E : sV) (d : Nat) (l0 l1 l2 l3 : Option Value) (st : List Value) (σ : sS), Rx E d 282 13 [l0, l1, l2, l3] st σ = Rx E d 282 14 [l0, l1, l2, l3] (.int (1) :: st) σ) ∧
  (∀ (E : sV) (d : Nat) (l0 l1 l2 l3 : Option Value) (v : Int32) (σ : sS), Rx E d 282 14 [l0, l1, l2, l3] [.int v] σ = some (.inl (some (.int v)), σ)) ∧
  (∀ (E : sV) (d : Nat) (l0 l1 l2 l3 : Option Value) (st : List Value) (σ : sS), Rx E d 282 15 [l0, l1, l2, l3] st σ = Rx E d 282 16 [l0, l1, l2, l3] (.int (0) :: st) σ) ∧
  (∀ (E : sV) (d : Nat) (l0 l1 l2 l3 : Option Value) (v : Int32) (σ : sS), Rx E d 282 16 [l0, l1, l2, l3] [.int v] σ = some (.inl (some (.int v)), σ)) := ⟨fun _ _ _ _ _ _ _ _ => Rx_of gMT_282 d282_0 rfl,
  fun _ _ _ _ _ _ _ => Rx_of gMT_282 d282_0 rfl,
  fun _ _ _ _ _ _ _ _ => Rx_of gMT_282 d282_1 rfl,
  fun _ _ _ _ _ _ _ _ => Rx_of gMT_282 d282_2 rfl,
  fun _ _ _ _ _ _ _ => Rx_of gMT_282 d282_2 rfl,
  fun _ _ _ _ _ _ _ _ => Rx_of gMT_282 d282_3 rfl,
  fun _ _ _ _ _ _ _ _ _ _ hc hb => Rx_callW gMT_282 d282_4 rfl rfl rfl rfl hc hb,
  fun _ _ _ _ _ _ _ _ _ => Rx_of gMT_282 d282_7 rfl,
  fun _ _ _ _ _ _ _ _ _ _ _ => Rx_ast gMT_282 d282_8 rfl rfl,
  fun _ _ _ _ _ _ _ _ => Rx_goto gMT_282 d282_9 rfl (by decide),
  fun _ _ _ _ _ _ _ _ _ => Rx_of gMT_282 d282_12 rfl,
  fun _ _ _ _ _ _ _ _ => Rx_of gMT_282 d282_12 rfl,
  fun _ _ _ _ _ _ _ _ => Rx_of gMT_282 d282_13 rfl,
  fun _ _ _ _ _ _ _ _ => Rx_iretI gMT_282 d282_14 rfl rfl,
  fun _ _ _ _ _ _ _ _ => Rx_of gMT_282 d282_15 rfl,
  fun _ _ _ _ _ _ _ _ => Rx_iretI gMT_282 d282_16 rfl rfl⟩
-- QLaw_writePlan: QLaw_writePlan_0
theorem NLaw_writePlan (E : sV) (d : Nat) (a0 : Nat) (a1 : Int32) (a2 : Nat) (σ : sS) : Mt E (d + 1) 282 [.ref a0, .int a1, .ref a2] σ = Rx E d 282 0 [some (.ref a0), some (.int a1), some (.ref a2), none] [] σ := Mt_succ gMT_282 (Nat.le_of_ble_eq_true rfl)
theorem QLaw_charAt_0 : (∀ (E : sV) (d : Nat) (l0 : Option Value) (l1 : Option Value) (l3 : Option Value) (x : Nat) (st : List Value) (σ : sS), Rx E d 283 0 [l0, l1, some (.ref x), l3] st σ = Rx E d 283 1 [l0, l1, some (.ref x), l3] (.ref x :: st) σ) ∧
  (∀ (E : sV) (d : Nat) (l0 : Option Value) (l1 : Option Value) (l3 : Option Value) (st : List Value) (σ : sS), Rx E d 283 0 [l0, l1, some (.null), l3] st σ = Rx E d 283 1 [l0, l1, some (.null), l3] (.null :: st) σ) ∧
  (∀ (E : sV) (d : Nat) (l0 l1 l2 l3 : Option Value) (st : List Value) (σ : sS), Rx E d 283 1 [l0, l1, l2, l3] st σ = Rx E d 283 2 [l0, l1, l2, l3] (.int (0) :: st) σ) ∧
  (∀ (E : sV) (d : Nat) (l1 : Option Value) (l2 : Option Value) (l3 : Option Value) (x : Nat) (st : List Value) (σ : sS), Rx E d 283 2 [some (.ref x), l1, l2, l3] st σ = Rx E d 283 3 [some (.ref x), l1, l2, l3] (.ref x :: st) σ) ∧
  (∀ (E : sV) (d : Nat) (l1 : Option Value) (l2 : Option Value) (l3 : Option Value) (st : List Value) (σ : sS), Rx E d 283 2 [some (.null), l1, l2, l3] st σ = Rx E d 283 3 [some (.null), l1, l2, l3] (.null :: st) σ) ∧
  (∀ (E : sV) (d : Nat) (l0 : Option Value) (l2 : Option Value) (l3 : Option Value) (x : Int32) (st : List Value) (σ : sS), Rx E d 283 3 [l0, some (.int x), l2, l3] st σ = Rx E d 283 4 [l0, some (.int x), l2, l3] (.int x :: st) σ) ∧
  (∀ (E : sV) (d : Nat) (l0 l1 l2 l3 : Option Value) (v1 : Value) (b : Nat) (st : List Value) (σ : sS) (hc : cats st ≤ 8) (hb : isOb σ.1 b 7 = true), Rx E d 283 4 [l0, l1, l2, l3] (v1 :: .ref b :: st) σ = fin E d 283 (sRet gm283 4 [l0, l1, l2, l3] st (Mt E d 118 [.ref b, v1] σ))) ∧
  (∀ (E : sV) (d : Nat) (l0 l1 l2 l3 : Option Value) (x : Int32) (st : List Value) (σ : sS), Rx E d 283 7 [l0, l1, l2, l3] (.int x :: st) σ = Rx E d 283 8 [l0, l1, l2, l3] (.long x.toInt64 :: st) σ) ∧
  (∀ (E : sV) (d : Nat) (l0 l1 l2 l3 : Option Value) (x : Int64) (i : Int32) (a : Nat) (st : List Value) (σ : sS), Rx E d 283 8 [l0, l1, l2, l3] (.long x :: .int i :: .ref a :: st) σ = if E.1 ≤ a then (astL σ.1 a i x).bind (fun h => Rx E d 283 9 [l0, l1, l2, l3] st (h, σ.2)) else none) ∧
  (∀ (E : sV) (d : Nat) (l0 l1 l2 l3 : Option Value) (st : List Value) (σ : sS), Rx E d 283 9 [l0, l1, l2, l3] st σ = Rx E d 283 15 [l0, l1, l2, l3] st σ) ∧
  (∀ (E : sV) (d : Nat) (l0 l1 l2 l3 : Option Value) (x : Nat) (st : List Value) (σ : sS), Rx E d 283 12 [l0, l1, l2, l3] (.ref x :: st) σ = Rx E d 283 13 [l0, l1, ldrop l2, some (.ref x)] st σ) ∧
  (∀ (E : sV) (d : Nat) (l0 l1 l2 l3 : Option Value) (st : List Value) (σ : sS), Rx E d 283 12 [l0, l1, l2, l3] (.null :: st) σ = Rx E d 283 13 [l0, l1, ldrop l2, some (.null)] st σ) ∧
  (∀ (E : sV) (d : Nat) (l0 l1 l2 l3 : Option Value) (st : List Value) (σ : sS), Rx E d 283 13 [l0, l1, l2, l3] st σ = Rx E d 283 14 [l0, l1, l2, l3] (.int (1) :: st) σ) ∧
  (∀ (E : sV) (d : Nat) (l0 l1 l2 l3 : Option Value) (v : Int32) (σ : sS), Rx E d 283 14 [l0, l1, l2, l3] [.int v] σ = some (.inl (some (.int v)), σ)) ∧
  (∀ (E : sV) (d : Nat) (l0 l1 l2 l3 : Option Value) (st : List Value) (σ : sS), Rx E d 283 15 [l0, l1, l2, l3] st σ = Rx E d 283 16 [l0, l1, l2, l3] (.int (0) :: st) σ) ∧
  (∀ (E : sV) (d : Nat) (l0 l1 l2 l3 : Option Value) (v : Int32) (σ : sS), Rx E d 283 16 [l0, l1, l2, l3] [.int v] σ = some (.inl (some (.int v)), σ)) := ⟨fun _ _ _ _ _ _ _ _ => Rx_of gMT_283 d283_0 rfl,
  fun _ _ _ _ _ _ _ => Rx_of gMT_283 d283_0 rfl,
  fun _ _ _ _ _ _ _ _ => Rx_of gMT_283 d283_1 rfl,
  fun _ _ _ _ _ _ _ _ => Rx_of gMT_283 d283_2 rfl,
  fun _ _ _ _ _ _ _ => Rx_of gMT_283 d283_2 rfl,
  fun _ _ _ _ _ _ _ _ => Rx_of gMT_283 d283_3 rfl,
  fun _ _ _ _ _ _ _ _ _ _ hc hb => Rx_callW gMT_283 d283_4 rfl rfl rfl rfl hc hb,
  fun _ _ _ _ _ _ _ _ _ => Rx_of gMT_283 d283_7 rfl,
  fun _ _ _ _ _ _ _ _ _ _ _ => Rx_ast gMT_283 d283_8 rfl rfl,
  fun _ _ _ _ _ _ _ _ => Rx_goto gMT_283 d283_9 rfl (by decide),
  fun _ _ _ _ _ _ _ _ _ => Rx_of gMT_283 d283_12 rfl,
  fun _ _ _ _ _ _ _ _ => Rx_of gMT_283 d283_12 rfl,
  fun _ _ _ _ _ _ _ _ => Rx_of gMT_283 d283_13 rfl,
  fun _ _ _ _ _ _ _ _ => Rx_iretI gMT_283 d283_14 rfl rfl,
  fun _ _ _ _ _ _ _ _ => Rx_of gMT_283 d283_15 rfl,
  fun _ _ _ _ _ _ _ _ => Rx_iretI gMT_283 d283_16 rfl rfl⟩
-- QLaw_charAt: QLaw_charAt_0
theorem NLaw_charAt (E : sV) (d : Nat) (a0 : Nat) (a1 : Int32) (a2 : Nat) (σ : sS) : Mt E (d + 1) 283 [.ref a0, .int a1, .ref a2] σ = Rx E d 283 0 [some (.ref a0), some (.int a1), some (.ref a2), none] [] σ := Mt_succ gMT_283 (Nat.le_of_ble_eq_true rfl)
theorem QLaw_type_0 : (∀ (E : sV) (d : Nat) (l0 : Option Value) (l1 : Option Value) (l3 : Option Value) (x : Nat) (st : List Value) (σ : sS), Rx E d 284 0 [l0, l1, some (.ref x), l3] st σ = Rx E d 284 1 [l0, l1, some (.ref x), l3] (.ref x :: st) σ) ∧
  (∀ (E : sV) (d : Nat) (l0 : Option Value) (l1 : Option Value) (l3 : Option Value) (st : List Value) (σ : sS), Rx E d 284 0 [l0, l1, some (.null), l3] st σ = Rx E d 284 1 [l0, l1, some (.null), l3] (.null :: st) σ) ∧
  (∀ (E : sV) (d : Nat) (l0 l1 l2 l3 : Option Value) (st : List Value) (σ : sS), Rx E d 284 1 [l0, l1, l2, l3] st σ = Rx E d 284 2 [l0, l1, l2, l3] (.int (0) :: st) σ) ∧
  (∀ (E : sV) (d : Nat) (l1 : Option Value) (l2 : Option Value) (l3 : Option Value) (x : Nat) (st : List Value) (σ : sS), Rx E d 284 2 [some (.ref x), l1, l2, l3] st σ = Rx E d 284 3 [some (.ref x), l1, l2, l3] (.ref x :: st) σ) ∧
  (∀ (E : sV) (d : Nat) (l1 : Option Value) (l2 : Option Value) (l3 : Option Value) (st : List Value) (σ : sS), Rx E d 284 2 [some (.null), l1, l2, l3] st σ = Rx E d 284 3 [some (.null), l1, l2, l3] (.null :: st) σ) ∧
  (∀ (E : sV) (d : Nat) (l0 : Option Value) (l2 : Option Value) (l3 : Option Value) (x : Int32) (st : List Value) (σ : sS), Rx E d 284 3 [l0, some (.int x), l2, l3] st σ = Rx E d 284 4 [l0, some (.int x), l2, l3] (.int x :: st) σ) ∧
  (∀ (E : sV) (d : Nat) (l0 l1 l2 l3 : Option Value) (v1 : Value) (b : Nat) (st : List Value) (σ : sS) (hc : cats st ≤ 8) (hb : isOb σ.1 b 7 = true), Rx E d 284 4 [l0, l1, l2, l3] (v1 :: .ref b :: st) σ = fin E d 284 (sRet gm284 4 [l0, l1, l2, l3] st (Mt E d 119 [.ref b, v1] σ))) ∧
  (∀ (E : sV) (d : Nat) (l0 l1 l2 l3 : Option Value) (x : Int32) (st : List Value) (σ : sS), Rx E d 284 7 [l0, l1, l2, l3] (.int x :: st) σ = Rx E d 284 8 [l0, l1, l2, l3] (.long x.toInt64 :: st) σ) ∧
  (∀ (E : sV) (d : Nat) (l0 l1 l2 l3 : Option Value) (x : Int64) (i : Int32) (a : Nat) (st : List Value) (σ : sS), Rx E d 284 8 [l0, l1, l2, l3] (.long x :: .int i :: .ref a :: st) σ = if E.1 ≤ a then (astL σ.1 a i x).bind (fun h => Rx E d 284 9 [l0, l1, l2, l3] st (h, σ.2)) else none) ∧
  (∀ (E : sV) (d : Nat) (l0 l1 l2 l3 : Option Value) (st : List Value) (σ : sS), Rx E d 284 9 [l0, l1, l2, l3] st σ = Rx E d 284 15 [l0, l1, l2, l3] st σ) ∧
  (∀ (E : sV) (d : Nat) (l0 l1 l2 l3 : Option Value) (x : Nat) (st : List Value) (σ : sS), Rx E d 284 12 [l0, l1, l2, l3] (.ref x :: st) σ = Rx E d 284 13 [l0, l1, ldrop l2, some (.ref x)] st σ) ∧
  (∀ (E : sV) (d : Nat) (l0 l1 l2 l3 : Option Value) (st : List Value) (σ : sS), Rx E d 284 12 [l0, l1, l2, l3] (.null :: st) σ = Rx E d 284 13 [l0, l1, ldrop l2, some (.null)] st σ) ∧
  (∀ (E : sV) (d : Nat) (l0 l1 l2 l3 : Option Value) (st : List Value) (σ : sS), Rx E d 284 13 [l0, l1, l2, l3] st σ = Rx E d 284 14 [l0, l1, l2, l3] (.int (1) :: st) σ) ∧
  (∀ (E : sV) (d : Nat) (l0 l1 l2 l3 : Option Value) (v : Int32) (σ : sS), Rx E d 284 14 [l0, l1, l2, l3] [.int v] σ = some (.inl (some (.int v)), σ)) ∧
  (∀ (E : sV) (d : Nat) (l0 l1 l2 l3 : Option Value) (st : List Value) (σ : sS), Rx E d 284 15 [l0, l1, l2, l3] st σ = Rx E d 284 16 [l0, l1, l2, l3] (.int (0) :: st) σ) ∧
  (∀ (E : sV) (d : Nat) (l0 l1 l2 l3 : Option Value) (v : Int32) (σ : sS), Rx E d 284 16 [l0, l1, l2, l3] [.int v] σ = some (.inl (some (.int v)), σ)) := ⟨fun _ _ _ _ _ _ _ _ => Rx_of gMT_284 d284_0 rfl,
  fun _ _ _ _ _ _ _ => Rx_of gMT_284 d284_0 rfl,
  fun _ _ _ _ _ _ _ _ => Rx_of gMT_284 d284_1 rfl,
  fun _ _ _ _ _ _ _ _ => Rx_of gMT_284 d284_2 rfl,
  fun _ _ _ _ _ _ _ => Rx_of gMT_284 d284_2 rfl,
  fun _ _ _ _ _ _ _ _ => Rx_of gMT_284 d284_3 rfl,
  fun _ _ _ _ _ _ _ _ _ _ hc hb => Rx_callW gMT_284 d284_4 rfl rfl rfl rfl hc hb,
  fun _ _ _ _ _ _ _ _ _ => Rx_of gMT_284 d284_7 rfl,
  fun _ _ _ _ _ _ _ _ _ _ _ => Rx_ast gMT_284 d284_8 rfl rfl,
  fun _ _ _ _ _ _ _ _ => Rx_goto gMT_284 d284_9 rfl (by decide),
  fun _ _ _ _ _ _ _ _ _ => Rx_of gMT_284 d284_12 rfl,
  fun _ _ _ _ _ _ _ _ => Rx_of gMT_284 d284_12 rfl,
  fun _ _ _ _ _ _ _ _ => Rx_of gMT_284 d284_13 rfl,
  fun _ _ _ _ _ _ _ _ => Rx_iretI gMT_284 d284_14 rfl rfl,
  fun _ _ _ _ _ _ _ _ => Rx_of gMT_284 d284_15 rfl,
  fun _ _ _ _ _ _ _ _ => Rx_iretI gMT_284 d284_16 rfl rfl⟩
-- QLaw_type: QLaw_type_0
theorem NLaw_type (E : sV) (d : Nat) (a0 : Nat) (a1 : Int32) (a2 : Nat) (σ : sS) : Mt E (d + 1) 284 [.ref a0, .int a1, .ref a2] σ = Rx E d 284 0 [some (.ref a0), some (.int a1), some (.ref a2), none] [] σ := Mt_succ gMT_284 (Nat.le_of_ble_eq_true rfl)
theorem QLaw_run_0 : (∀ (E : sV) (d : Nat) (l0 : Option Value) (l2 : Option Value) (x : Nat) (st : List Value) (σ : sS), Rx E d 285 0 [l0, some (.ref x), l2] st σ = Rx E d 285 1 [l0, some (.ref x), l2] (.ref x :: st) σ) ∧
  (∀ (E : sV) (d : Nat) (l0 : Option Value) (l2 : Option Value) (st : List Value) (σ : sS), Rx E d 285 0 [l0, some (.null), l2] st σ = Rx E d 285 1 [l0, some (.null), l2] (.null :: st) σ) ∧
  (∀ (E : sV) (d : Nat) (l0 l1 l2 : Option Value) (st : List Value) (σ : sS), Rx E d 285 1 [l0, l1, l2] st σ = Rx E d 285 2 [l0, l1, l2] (.int (0) :: st) σ) ∧
  (∀ (E : sV) (d : Nat) (l1 : Option Value) (l2 : Option Value) (x : Nat) (st : List Value) (σ : sS), Rx E d 285 2 [some (.ref x), l1, l2] st σ = Rx E d 285 3 [some (.ref x), l1, l2] (.ref x :: st) σ) ∧
  (∀ (E : sV) (d : Nat) (l1 : Option Value) (l2 : Option Value) (st : List Value) (σ : sS), Rx E d 285 2 [some (.null), l1, l2] st σ = Rx E d 285 3 [some (.null), l1, l2] (.null :: st) σ) ∧
  (∀ (E : sV) (d : Nat) (l0 l1 l2 : Option Value) (b : Nat) (st : List Value) (σ : sS) (hc : cats st ≤ 8) (hb : isOb σ.1 b 7 = true), Rx E d 285 3 [l0, l1, l2] (.ref b :: st) σ = fin E d 285 (sRet gm285 3 [l0, l1, l2] st (Mt E d 120 [.ref b] σ))) ∧
  (∀ (E : sV) (d : Nat) (l0 l1 l2 : Option Value) (x : Int32) (st : List Value) (σ : sS), Rx E d 285 6 [l0, l1, l2] (.int x :: st) σ = Rx E d 285 7 [l0, l1, l2] (.long x.toInt64 :: st) σ) ∧
  (∀ (E : sV) (d : Nat) (l0 l1 l2 : Option Value) (x : Int64) (i : Int32) (a : Nat) (st : List Value) (σ : sS), Rx E d 285 7 [l0, l1, l2] (.long x :: .int i :: .ref a :: st) σ = if E.1 ≤ a then (astL σ.1 a i x).bind (fun h => Rx E d 285 8 [l0, l1, l2] st (h, σ.2)) else none) ∧
  (∀ (E : sV) (d : Nat) (l0 l1 l2 : Option Value) (st : List Value) (σ : sS), Rx E d 285 8 [l0, l1, l2] st σ = Rx E d 285 17 [l0, l1, l2] st σ) ∧
  (∀ (E : sV) (d : Nat) (l0 l1 l2 : Option Value) (x : Nat) (st : List Value) (σ : sS), Rx E d 285 11 [l0, l1, l2] (.ref x :: st) σ = Rx E d 285 12 [l0, ldrop l1, some (.ref x)] st σ) ∧
  (∀ (E : sV) (d : Nat) (l0 l1 l2 : Option Value) (st : List Value) (σ : sS), Rx E d 285 11 [l0, l1, l2] (.null :: st) σ = Rx E d 285 12 [l0, ldrop l1, some (.null)] st σ) ∧
  (∀ (E : sV) (d : Nat) (l0 l1 l2 : Option Value) (st : List Value) (σ : sS), Rx E d 285 12 [l0, l1, l2] st σ = Rx E d 285 13 [l0, l1, l2] (.int (1) :: st) σ) ∧
  (∀ (E : sV) (d : Nat) (l0 l1 l2 : Option Value) (v : Int32) (σ : sS), Rx E d 285 13 [l0, l1, l2] [.int v] σ = some (.inl (some (.int v)), σ)) ∧
  (∀ (E : sV) (d : Nat) (l0 l1 l2 : Option Value) (x : Nat) (st : List Value) (σ : sS), Rx E d 285 14 [l0, l1, l2] (.ref x :: st) σ = Rx E d 285 15 [l0, ldrop l1, some (.ref x)] st σ) ∧
  (∀ (E : sV) (d : Nat) (l0 l1 l2 : Option Value) (st : List Value) (σ : sS), Rx E d 285 14 [l0, l1, l2] (.null :: st) σ = Rx E d 285 15 [l0, ldrop l1, some (.null)] st σ) ∧
  (∀ (E : sV) (d : Nat) (l0 l1 l2 : Option Value) (st : List Value) (σ : sS), Rx E d 285 15 [l0, l1, l2] st σ = Rx E d 285 16 [l0, l1, l2] (.int (2) :: st) σ) ∧
  (∀ (E : sV) (d : Nat) (l0 l1 l2 : Option Value) (v : Int32) (σ : sS), Rx E d 285 16 [l0, l1, l2] [.int v] σ = some (.inl (some (.int v)), σ)) ∧
  (∀ (E : sV) (d : Nat) (l0 l1 l2 : Option Value) (st : List Value) (σ : sS), Rx E d 285 17 [l0, l1, l2] st σ = Rx E d 285 18 [l0, l1, l2] (.int (0) :: st) σ) ∧
  (∀ (E : sV) (d : Nat) (l0 l1 l2 : Option Value) (v : Int32) (σ : sS), Rx E d 285 18 [l0, l1, l2] [.int v] σ = some (.inl (some (.int v)), σ)) := ⟨fun _ _ _ _ _ _ _ => Rx_of gMT_285 d285_0 rfl,
  fun _ _ _ _ _ _ => Rx_of gMT_285 d285_0 rfl,
  fun _ _ _ _ _ _ _ => Rx_of gMT_285 d285_1 rfl,
  fun _ _ _ _ _ _ _ => Rx_of gMT_285 d285_2 rfl,
  fun _ _ _ _ _ _ => Rx_of gMT_285 d285_2 rfl,
  fun _ _ _ _ _ _ _ _ hc hb => Rx_callW gMT_285 d285_3 rfl rfl rfl rfl hc hb,
  fun _ _ _ _ _ _ _ _ => Rx_of gMT_285 d285_6 rfl,
  fun _ _ _ _ _ _ _ _ _ _ => Rx_ast gMT_285 d285_7 rfl rfl,
  fun _ _ _ _ _ _ _ => Rx_goto gMT_285 d285_8 rfl (by decide),
  fun _ _ _ _ _ _ _ _ => Rx_of gMT_285 d285_11 rfl,
  fun _ _ _ _ _ _ _ => Rx_of gMT_285 d285_11 rfl,
  fun _ _ _ _ _ _ _ => Rx_of gMT_285 d285_12 rfl,
  fun _ _ _ _ _ _ _ => Rx_iretI gMT_285 d285_13 rfl rfl,
  fun _ _ _ _ _ _ _ _ => Rx_of gMT_285 d285_14 rfl,
  fun _ _ _ _ _ _ _ => Rx_of gMT_285 d285_14 rfl,
  fun _ _ _ _ _ _ _ => Rx_of gMT_285 d285_15 rfl,
  fun _ _ _ _ _ _ _ => Rx_iretI gMT_285 d285_16 rfl rfl,
  fun _ _ _ _ _ _ _ => Rx_of gMT_285 d285_17 rfl,
  fun _ _ _ _ _ _ _ => Rx_iretI gMT_285 d285_18 rfl rfl⟩
-- QLaw_run: QLaw_run_0
theorem NLaw_run (E : sV) (d : Nat) (a0 : Nat) (a1 : Nat) (σ : sS) : Mt E (d + 1) 285 [.ref a0, .ref a1] σ = Rx E d 285 0 [some (.ref a0), some (.ref a1), none] [] σ := Mt_succ gMT_285 (Nat.le_of_ble_eq_true rfl)
theorem QLaw_errorPosition_0 : (∀ (E : sV) (d : Nat) (l0 : Option Value) (l2 : Option Value) (x : Nat) (st : List Value) (σ : sS), Rx E d 286 0 [l0, some (.ref x), l2] st σ = Rx E d 286 1 [l0, some (.ref x), l2] (.ref x :: st) σ) ∧
  (∀ (E : sV) (d : Nat) (l0 : Option Value) (l2 : Option Value) (st : List Value) (σ : sS), Rx E d 286 0 [l0, some (.null), l2] st σ = Rx E d 286 1 [l0, some (.null), l2] (.null :: st) σ) ∧
  (∀ (E : sV) (d : Nat) (l0 l1 l2 : Option Value) (st : List Value) (σ : sS), Rx E d 286 1 [l0, l1, l2] st σ = Rx E d 286 2 [l0, l1, l2] (.int (0) :: st) σ) ∧
  (∀ (E : sV) (d : Nat) (l1 : Option Value) (l2 : Option Value) (x : Nat) (st : List Value) (σ : sS), Rx E d 286 2 [some (.ref x), l1, l2] st σ = Rx E d 286 3 [some (.ref x), l1, l2] (.ref x :: st) σ) ∧
  (∀ (E : sV) (d : Nat) (l1 : Option Value) (l2 : Option Value) (st : List Value) (σ : sS), Rx E d 286 2 [some (.null), l1, l2] st σ = Rx E d 286 3 [some (.null), l1, l2] (.null :: st) σ) ∧
  (∀ (E : sV) (d : Nat) (l0 l1 l2 : Option Value) (b : Nat) (st : List Value) (σ : sS) (hc : cats st ≤ 8) (hb : isOb σ.1 b 7 = true), Rx E d 286 3 [l0, l1, l2] (.ref b :: st) σ = fin E d 286 (sRet gm286 3 [l0, l1, l2] st (Mt E d 123 [.ref b] σ))) ∧
  (∀ (E : sV) (d : Nat) (l0 l1 l2 : Option Value) (x : Int32) (st : List Value) (σ : sS), Rx E d 286 6 [l0, l1, l2] (.int x :: st) σ = Rx E d 286 7 [l0, l1, l2] (.long x.toInt64 :: st) σ) ∧
  (∀ (E : sV) (d : Nat) (l0 l1 l2 : Option Value) (x : Int64) (i : Int32) (a : Nat) (st : List Value) (σ : sS), Rx E d 286 7 [l0, l1, l2] (.long x :: .int i :: .ref a :: st) σ = if E.1 ≤ a then (astL σ.1 a i x).bind (fun h => Rx E d 286 8 [l0, l1, l2] st (h, σ.2)) else none) ∧
  (∀ (E : sV) (d : Nat) (l0 l1 l2 : Option Value) (st : List Value) (σ : sS), Rx E d 286 8 [l0, l1, l2] st σ = Rx E d 286 14 [l0, l1, l2] st σ) ∧
  (∀ (E : sV) (d : Nat) (l0 l1 l2 : Option Value) (x : Nat) (st : List Value) (σ : sS), Rx E d 286 11 [l0, l1, l2] (.ref x :: st) σ = Rx E d 286 12 [l0, ldrop l1, some (.ref x)] st σ) ∧
  (∀ (E : sV) (d : Nat) (l0 l1 l2 : Option Value) (st : List Value) (σ : sS), Rx E d 286 11 [l0, l1, l2] (.null :: st) σ = Rx E d 286 12 [l0, ldrop l1, some (.null)] st σ) ∧
  (∀ (E : sV) (d : Nat) (l0 l1 l2 : Option Value) (st : List Value) (σ : sS), Rx E d 286 12 [l0, l1, l2] st σ = Rx E d 286 13 [l0, l1, l2] (.int (1) :: st) σ) ∧
  (∀ (E : sV) (d : Nat) (l0 l1 l2 : Option Value) (v : Int32) (σ : sS), Rx E d 286 13 [l0, l1, l2] [.int v] σ = some (.inl (some (.int v)), σ)) ∧
  (∀ (E : sV) (d : Nat) (l0 l1 l2 : Option Value) (st : List Value) (σ : sS), Rx E d 286 14 [l0, l1, l2] st σ = Rx E d 286 15 [l0, l1, l2] (.int (0) :: st) σ) ∧
  (∀ (E : sV) (d : Nat) (l0 l1 l2 : Option Value) (v : Int32) (σ : sS), Rx E d 286 15 [l0, l1, l2] [.int v] σ = some (.inl (some (.int v)), σ)) := ⟨fun _ _ _ _ _ _ _ => Rx_of gMT_286 d286_0 rfl,
  fun _ _ _ _ _ _ => Rx_of gMT_286 d286_0 rfl,
  fun _ _ _ _ _ _ _ => Rx_of gMT_286 d286_1 rfl,
  fun _ _ _ _ _ _ _ => Rx_of gMT_286 d286_2 rfl,
  fun _ _ _ _ _ _ => Rx_of gMT_286 d286_2 rfl,
  fun _ _ _ _ _ _ _ _ hc hb => Rx_callW gMT_286 d286_3 rfl rfl rfl rfl hc hb,
  fun _ _ _ _ _ _ _ _ => Rx_of gMT_286 d286_6 rfl,
  fun _ _ _ _ _ _ _ _ _ _ => Rx_ast gMT_286 d286_7 rfl rfl,
  fun _ _ _ _ _ _ _ => Rx_goto gMT_286 d286_8 rfl (by decide),
  fun _ _ _ _ _ _ _ _ => Rx_of gMT_286 d286_11 rfl,
  fun _ _ _ _ _ _ _ => Rx_of gMT_286 d286_11 rfl,
  fun _ _ _ _ _ _ _ => Rx_of gMT_286 d286_12 rfl,
  fun _ _ _ _ _ _ _ => Rx_iretI gMT_286 d286_13 rfl rfl,
  fun _ _ _ _ _ _ _ => Rx_of gMT_286 d286_14 rfl,
  fun _ _ _ _ _ _ _ => Rx_iretI gMT_286 d286_15 rfl rfl⟩
-- QLaw_errorPosition: QLaw_errorPosition_0
theorem NLaw_errorPosition (E : sV) (d : Nat) (a0 : Nat) (a1 : Nat) (σ : sS) : Mt E (d + 1) 286 [.ref a0, .ref a1] σ = Rx E d 286 0 [some (.ref a0), some (.ref a1), none] [] σ := Mt_succ gMT_286 (Nat.le_of_ble_eq_true rfl)
theorem QLaw_failedCommand_0 : (∀ (E : sV) (d : Nat) (l0 : Option Value) (l2 : Option Value) (x : Nat) (st : List Value) (σ : sS), Rx E d 287 0 [l0, some (.ref x), l2] st σ = Rx E d 287 1 [l0, some (.ref x), l2] (.ref x :: st) σ) ∧
  (∀ (E : sV) (d : Nat) (l0 : Option Value) (l2 : Option Value) (st : List Value) (σ : sS), Rx E d 287 0 [l0, some (.null), l2] st σ = Rx E d 287 1 [l0, some (.null), l2] (.null :: st) σ) ∧
  (∀ (E : sV) (d : Nat) (l0 l1 l2 : Option Value) (st : List Value) (σ : sS), Rx E d 287 1 [l0, l1, l2] st σ = Rx E d 287 2 [l0, l1, l2] (.int (0) :: st) σ) ∧
  (∀ (E : sV) (d : Nat) (l1 : Option Value) (l2 : Option Value) (x : Nat) (st : List Value) (σ : sS), Rx E d 287 2 [some (.ref x), l1, l2] st σ = Rx E d 287 3 [some (.ref x), l1, l2] (.ref x :: st) σ) ∧
  (∀ (E : sV) (d : Nat) (l1 : Option Value) (l2 : Option Value) (st : List Value) (σ : sS), Rx E d 287 2 [some (.null), l1, l2] st σ = Rx E d 287 3 [some (.null), l1, l2] (.null :: st) σ) ∧
  (∀ (E : sV) (d : Nat) (l0 l1 l2 : Option Value) (b : Nat) (st : List Value) (σ : sS) (hc : cats st ≤ 8) (hb : isOb σ.1 b 7 = true), Rx E d 287 3 [l0, l1, l2] (.ref b :: st) σ = fin E d 287 (sRet gm287 3 [l0, l1, l2] st (Mt E d 124 [.ref b] σ))) ∧
  (∀ (E : sV) (d : Nat) (l0 l1 l2 : Option Value) (x : Int32) (st : List Value) (σ : sS), Rx E d 287 6 [l0, l1, l2] (.int x :: st) σ = Rx E d 287 7 [l0, l1, l2] (.long x.toInt64 :: st) σ) ∧
  (∀ (E : sV) (d : Nat) (l0 l1 l2 : Option Value) (x : Int64) (i : Int32) (a : Nat) (st : List Value) (σ : sS), Rx E d 287 7 [l0, l1, l2] (.long x :: .int i :: .ref a :: st) σ = if E.1 ≤ a then (astL σ.1 a i x).bind (fun h => Rx E d 287 8 [l0, l1, l2] st (h, σ.2)) else none) ∧
  (∀ (E : sV) (d : Nat) (l0 l1 l2 : Option Value) (st : List Value) (σ : sS), Rx E d 287 8 [l0, l1, l2] st σ = Rx E d 287 14 [l0, l1, l2] st σ) ∧
  (∀ (E : sV) (d : Nat) (l0 l1 l2 : Option Value) (x : Nat) (st : List Value) (σ : sS), Rx E d 287 11 [l0, l1, l2] (.ref x :: st) σ = Rx E d 287 12 [l0, ldrop l1, some (.ref x)] st σ) ∧
  (∀ (E : sV) (d : Nat) (l0 l1 l2 : Option Value) (st : List Value) (σ : sS), Rx E d 287 11 [l0, l1, l2] (.null :: st) σ = Rx E d 287 12 [l0, ldrop l1, some (.null)] st σ) ∧
  (∀ (E : sV) (d : Nat) (l0 l1 l2 : Option Value) (st : List Value) (σ : sS), Rx E d 287 12 [l0, l1, l2] st σ = Rx E d 287 13 [l0, l1, l2] (.int (1) :: st) σ) ∧
  (∀ (E : sV) (d : Nat) (l0 l1 l2 : Option Value) (v : Int32) (σ : sS), Rx E d 287 13 [l0, l1, l2] [.int v] σ = some (.inl (some (.int v)), σ)) ∧
  (∀ (E : sV) (d : Nat) (l0 l1 l2 : Option Value) (st : List Value) (σ : sS), Rx E d 287 14 [l0, l1, l2] st σ = Rx E d 287 15 [l0, l1, l2] (.int (0) :: st) σ) ∧
  (∀ (E : sV) (d : Nat) (l0 l1 l2 : Option Value) (v : Int32) (σ : sS), Rx E d 287 15 [l0, l1, l2] [.int v] σ = some (.inl (some (.int v)), σ)) := ⟨fun _ _ _ _ _ _ _ => Rx_of gMT_287 d287_0 rfl,
  fun _ _ _ _ _ _ => Rx_of gMT_287 d287_0 rfl,
  fun _ _ _ _ _ _ _ => Rx_of gMT_287 d287_1 rfl,
  fun _ _ _ _ _ _ _ => Rx_of gMT_287 d287_2 rfl,
  fun _ _ _ _ _ _ => Rx_of gMT_287 d287_2 rfl,
  fun _ _ _ _ _ _ _ _ hc hb => Rx_callW gMT_287 d287_3 rfl rfl rfl rfl hc hb,
  fun _ _ _ _ _ _ _ _ => Rx_of gMT_287 d287_6 rfl,
  fun _ _ _ _ _ _ _ _ _ _ => Rx_ast gMT_287 d287_7 rfl rfl,
  fun _ _ _ _ _ _ _ => Rx_goto gMT_287 d287_8 rfl (by decide),
  fun _ _ _ _ _ _ _ _ => Rx_of gMT_287 d287_11 rfl,
  fun _ _ _ _ _ _ _ => Rx_of gMT_287 d287_11 rfl,
  fun _ _ _ _ _ _ _ => Rx_of gMT_287 d287_12 rfl,
  fun _ _ _ _ _ _ _ => Rx_iretI gMT_287 d287_13 rfl rfl,
  fun _ _ _ _ _ _ _ => Rx_of gMT_287 d287_14 rfl,
  fun _ _ _ _ _ _ _ => Rx_iretI gMT_287 d287_15 rfl rfl⟩
-- QLaw_failedCommand: QLaw_failedCommand_0
theorem NLaw_failedCommand (E : sV) (d : Nat) (a0 : Nat) (a1 : Nat) (σ : sS) : Mt E (d + 1) 287 [.ref a0, .ref a1] σ = Rx E d 287 0 [some (.ref a0), some (.ref a1), none] [] σ := Mt_succ gMT_287 (Nat.le_of_ble_eq_true rfl)
theorem QLaw_undo_0 : (∀ (E : sV) (d : Nat) (l0 : Option Value) (l2 : Option Value) (x : Nat) (st : List Value) (σ : sS), Rx E d 288 0 [l0, some (.ref x), l2] st σ = Rx E d 288 1 [l0, some (.ref x), l2] (.ref x :: st) σ) ∧
  (∀ (E : sV) (d : Nat) (l0 : Option Value) (l2 : Option Value) (st : List Value) (σ : sS), Rx E d 288 0 [l0, some (.null), l2] st σ = Rx E d 288 1 [l0, some (.null), l2] (.null :: st) σ) ∧
  (∀ (E : sV) (d : Nat) (l0 l1 l2 : Option Value) (st : List Value) (σ : sS), Rx E d 288 1 [l0, l1, l2] st σ = Rx E d 288 2 [l0, l1, l2] (.int (0) :: st) σ) ∧
  (∀ (E : sV) (d : Nat) (l1 : Option Value) (l2 : Option Value) (x : Nat) (st : List Value) (σ : sS), Rx E d 288 2 [some (.ref x), l1, l2] st σ = Rx E d 288 3 [some (.ref x), l1, l2] (.ref x :: st) σ) ∧
  (∀ (E : sV) (d : Nat) (l1 : Option Value) (l2 : Option Value) (st : List Value) (σ : sS), Rx E d 288 2 [some (.null), l1, l2] st σ = Rx E d 288 3 [some (.null), l1, l2] (.null :: st) σ) ∧
  (∀ (E : sV) (d : Nat) (l0 l1 l2 : Option Value) (b : Nat) (st : List Value) (σ : sS) (hc : cats st ≤ 8) (hb : isOb σ.1 b 7 = true), Rx E d 288 3 [l0, l1, l2] (.ref b :: st) σ = fin E d 288 (sRet gm288 3 [l0, l1, l2] st (Mt E d 125 [.ref b] σ))) ∧
  (∀ (E : sV) (d : Nat) (l0 l1 l2 : Option Value) (x : Int32) (st : List Value) (σ : sS), Rx E d 288 6 [l0, l1, l2] (.int x :: st) σ = Rx E d 288 7 [l0, l1, l2] (.long x.toInt64 :: st) σ) ∧
  (∀ (E : sV) (d : Nat) (l0 l1 l2 : Option Value) (x : Int64) (i : Int32) (a : Nat) (st : List Value) (σ : sS), Rx E d 288 7 [l0, l1, l2] (.long x :: .int i :: .ref a :: st) σ = if E.1 ≤ a then (astL σ.1 a i x).bind (fun h => Rx E d 288 8 [l0, l1, l2] st (h, σ.2)) else none) ∧
  (∀ (E : sV) (d : Nat) (l0 l1 l2 : Option Value) (st : List Value) (σ : sS), Rx E d 288 8 [l0, l1, l2] st σ = Rx E d 288 14 [l0, l1, l2] st σ) ∧
  (∀ (E : sV) (d : Nat) (l0 l1 l2 : Option Value) (x : Nat) (st : List Value) (σ : sS), Rx E d 288 11 [l0, l1, l2] (.ref x :: st) σ = Rx E d 288 12 [l0, ldrop l1, some (.ref x)] st σ) ∧
  (∀ (E : sV) (d : Nat) (l0 l1 l2 : Option Value) (st : List Value) (σ : sS), Rx E d 288 11 [l0, l1, l2] (.null :: st) σ = Rx E d 288 12 [l0, ldrop l1, some (.null)] st σ) ∧
  (∀ (E : sV) (d : Nat) (l0 l1 l2 : Option Value) (st : List Value) (σ : sS), Rx E d 288 12 [l0, l1, l2] st σ = Rx E d 288 13 [l0, l1, l2] (.int (1) :: st) σ) ∧
  (∀ (E : sV) (d : Nat) (l0 l1 l2 : Option Value) (v : Int32) (σ : sS), Rx E d 288 13 [l0, l1, l2] [.int v] σ = some (.inl (some (.int v)), σ)) ∧
  (∀ (E : sV) (d : Nat) (l0 l1 l2 : Option Value) (st : List Value) (σ : sS), Rx E d 288 14 [l0, l1, l2] st σ = Rx E d 288 15 [l0, l1, l2] (.int (0) :: st) σ) ∧
  (∀ (E : sV) (d : Nat) (l0 l1 l2 : Option Value) (v : Int32) (σ : sS), Rx E d 288 15 [l0, l1, l2] [.int v] σ = some (.inl (some (.int v)), σ)) := ⟨fun _ _ _ _ _ _ _ => Rx_of gMT_288 d288_0 rfl,
  fun _ _ _ _ _ _ => Rx_of gMT_288 d288_0 rfl,
  fun _ _ _ _ _ _ _ => Rx_of gMT_288 d288_1 rfl,
  fun _ _ _ _ _ _ _ => Rx_of gMT_288 d288_2 rfl,
  fun _ _ _ _ _ _ => Rx_of gMT_288 d288_2 rfl,
  fun _ _ _ _ _ _ _ _ hc hb => Rx_callW gMT_288 d288_3 rfl rfl rfl rfl hc hb,
  fun _ _ _ _ _ _ _ _ => Rx_of gMT_288 d288_6 rfl,
  fun _ _ _ _ _ _ _ _ _ _ => Rx_ast gMT_288 d288_7 rfl rfl,
  fun _ _ _ _ _ _ _ => Rx_goto gMT_288 d288_8 rfl (by decide),
  fun _ _ _ _ _ _ _ _ => Rx_of gMT_288 d288_11 rfl,
  fun _ _ _ _ _ _ _ => Rx_of gMT_288 d288_11 rfl,
  fun _ _ _ _ _ _ _ => Rx_of gMT_288 d288_12 rfl,
  fun _ _ _ _ _ _ _ => Rx_iretI gMT_288 d288_13 rfl rfl,
  fun _ _ _ _ _ _ _ => Rx_of gMT_288 d288_14 rfl,
  fun _ _ _ _ _ _ _ => Rx_iretI gMT_288 d288_15 rfl rfl⟩
-- QLaw_undo: QLaw_undo_0
theorem NLaw_undo (E : sV) (d : Nat) (a0 : Nat) (a1 : Nat) (σ : sS) : Mt E (d + 1) 288 [.ref a0, .ref a1] σ = Rx E d 288 0 [some (.ref a0), some (.ref a1), none] [] σ := Mt_succ gMT_288 (Nat.le_of_ble_eq_true rfl)
theorem QLaw_restore_0 : (∀ (E : sV) (d : Nat) (l0 : Option Value) (l2 : Option Value) (x : Nat) (st : List Value) (σ : sS), Rx E d 289 0 [l0, some (.ref x), l2] st σ = Rx E d 289 1 [l0, some (.ref x), l2] (.ref x :: st) σ) ∧
  (∀ (E : sV) (d : Nat) (l0 : Option Value) (l2 : Option Value) (st : List Value) (σ : sS), Rx E d 289 0 [l0, some (.null), l2] st σ = Rx E d 289 1 [l0, some (.null), l2] (.null :: st) σ) ∧
  (∀ (E : sV) (d : Nat) (l0 l1 l2 : Option Value) (st : List Value) (σ : sS), Rx E d 289 1 [l0, l1, l2] st σ = Rx E d 289 2 [l0, l1, l2] (.int (0) :: st) σ) ∧
  (∀ (E : sV) (d : Nat) (l1 : Option Value) (l2 : Option Value) (x : Nat) (st : List Value) (σ : sS), Rx E d 289 2 [some (.ref x), l1, l2] st σ = Rx E d 289 3 [some (.ref x), l1, l2] (.ref x :: st) σ) ∧
  (∀ (E : sV) (d : Nat) (l1 : Option Value) (l2 : Option Value) (st : List Value) (σ : sS), Rx E d 289 2 [some (.null), l1, l2] st σ = Rx E d 289 3 [some (.null), l1, l2] (.null :: st) σ) ∧
  (∀ (E : sV) (d : Nat) (l0 l1 l2 : Option Value) (b : Nat) (st : List Value) (σ : sS) (hc : cats st ≤ 8) (hb : isOb σ.1 b 7 = true), Rx E d 289 3 [l0, l1, l2] (.ref b :: st) σ = fin E d 289 (sRet gm289 3 [l0, l1, l2] st (Mt E d 126 [.ref b] σ))) ∧
  (∀ (E : sV) (d : Nat) (l0 l1 l2 : Option Value) (x : Int32) (st : List Value) (σ : sS), Rx E d 289 6 [l0, l1, l2] (.int x :: st) σ = Rx E d 289 7 [l0, l1, l2] (.long x.toInt64 :: st) σ) ∧
  (∀ (E : sV) (d : Nat) (l0 l1 l2 : Option Value) (x : Int64) (i : Int32) (a : Nat) (st : List Value) (σ : sS), Rx E d 289 7 [l0, l1, l2] (.long x :: .int i :: .ref a :: st) σ = if E.1 ≤ a then (astL σ.1 a i x).bind (fun h => Rx E d 289 8 [l0, l1, l2] st (h, σ.2)) else none) ∧
  (∀ (E : sV) (d : Nat) (l0 l1 l2 : Option Value) (st : List Value) (σ : sS), Rx E d 289 8 [l0, l1, l2] st σ = Rx E d 289 14 [l0, l1, l2] st σ) ∧
  (∀ (E : sV) (d : Nat) (l0 l1 l2 : Option Value) (x : Nat) (st : List Value) (σ : sS), Rx E d 289 11 [l0, l1, l2] (.ref x :: st) σ = Rx E d 289 12 [l0, ldrop l1, some (.ref x)] st σ) ∧
  (∀ (E : sV) (d : Nat) (l0 l1 l2 : Option Value) (st : List Value) (σ : sS), Rx E d 289 11 [l0, l1, l2] (.null :: st) σ = Rx E d 289 12 [l0, ldrop l1, some (.null)] st σ) ∧
  (∀ (E : sV) (d : Nat) (l0 l1 l2 : Option Value) (st : List Value) (σ : sS), Rx E d 289 12 [l0, l1, l2] st σ = Rx E d 289 13 [l0, l1, l2] (.int (1) :: st) σ) ∧
  (∀ (E : sV) (d : Nat) (l0 l1 l2 : Option Value) (v : Int32) (σ : sS), Rx E d 289 13 [l0, l1, l2] [.int v] σ = some (.inl (some (.int v)), σ)) ∧
  (∀ (E : sV) (d : Nat) (l0 l1 l2 : Option Value) (st : List Value) (σ : sS), Rx E d 289 14 [l0, l1, l2] st σ = Rx E d 289 15 [l0, l1, l2] (.int (0) :: st) σ) ∧
  (∀ (E : sV) (d : Nat) (l0 l1 l2 : Option Value) (v : Int32) (σ : sS), Rx E d 289 15 [l0, l1, l2] [.int v] σ = some (.inl (some (.int v)), σ)) := ⟨fun _ _ _ _ _ _ _ => Rx_of gMT_289 d289_0 rfl,
  fun _ _ _ _ _ _ => Rx_of gMT_289 d289_0 rfl,
  fun _ _ _ _ _ _ _ => Rx_of gMT_289 d289_1 rfl,
  fun _ _ _ _ _ _ _ => Rx_of gMT_289 d289_2 rfl,
  fun _ _ _ _ _ _ => Rx_of gMT_289 d289_2 rfl,
  fun _ _ _ _ _ _ _ _ hc hb => Rx_callW gMT_289 d289_3 rfl rfl rfl rfl hc hb,
  fun _ _ _ _ _ _ _ _ => Rx_of gMT_289 d289_6 rfl,
  fun _ _ _ _ _ _ _ _ _ _ => Rx_ast gMT_289 d289_7 rfl rfl,
  fun _ _ _ _ _ _ _ => Rx_goto gMT_289 d289_8 rfl (by decide),
  fun _ _ _ _ _ _ _ _ => Rx_of gMT_289 d289_11 rfl,
  fun _ _ _ _ _ _ _ => Rx_of gMT_289 d289_11 rfl,
  fun _ _ _ _ _ _ _ => Rx_of gMT_289 d289_12 rfl,
  fun _ _ _ _ _ _ _ => Rx_iretI gMT_289 d289_13 rfl rfl,
  fun _ _ _ _ _ _ _ => Rx_of gMT_289 d289_14 rfl,
  fun _ _ _ _ _ _ _ => Rx_iretI gMT_289 d289_15 rfl rfl⟩
-- QLaw_restore: QLaw_restore_0
theorem NLaw_restore (E : sV) (d : Nat) (a0 : Nat) (a1 : Nat) (σ : sS) : Mt E (d + 1) 289 [.ref a0, .ref a1] σ = Rx E d 289 0 [some (.ref a0), some (.ref a1), none] [] σ := Mt_succ gMT_289 (Nat.le_of_ble_eq_true rfl)
