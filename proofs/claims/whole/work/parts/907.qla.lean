theorem QLaw_law_0 : (∀ (E : sV) (d : Nat) (l0 l1 l2 l3 l4 l5 l6 l7 l8 l9 : Option Value) (st : List Value) (σ : sS), Rx E d 290 0 [l0, l1, l2, l3, l4, l5, l6, l7, l8, l9] st σ = Rx E d 290 3 [l0, l1, l2, l3, l4, l5, l6, l7, l8, l9] (.ref σ.2.1 :: st) (hset σ.1 σ.2.1 (.inr (7, [.null, .null, .int 0, .null, .null, .null, .null, .int 0, .int 0])), σ.2.1 + 1, σ.2.2 + 9)) ∧
  (∀ (E : sV) (d : Nat) (l0 l1 l2 l3 l4 l5 l6 l7 l8 l9 : Option Value) (x : Nat) (st : List Value) (σ : sS), Rx E d 290 3 [l0, l1, l2, l3, l4, l5, l6, l7, l8, l9] (.ref x :: st) σ = Rx E d 290 4 [l0, l1, l2, l3, l4, l5, l6, l7, l8, l9] (.ref x :: .ref x :: st) σ) ∧
  (∀ (E : sV) (d : Nat) (l0 l1 l2 l3 l4 l5 l6 l7 l8 l9 : Option Value) (x : Int32) (st : List Value) (σ : sS), Rx E d 290 3 [l0, l1, l2, l3, l4, l5, l6, l7, l8, l9] (.int x :: st) σ = Rx E d 290 4 [l0, l1, l2, l3, l4, l5, l6, l7, l8, l9] (.int x :: .int x :: st) σ) ∧
  (∀ (E : sV) (d : Nat) (l0 l1 l2 l3 l4 l5 l6 l7 l8 l9 : Option Value) (b : Nat) (st : List Value) (σ : sS), Rx E d 290 4 [l0, l1, l2, l3, l4, l5, l6, l7, l8, l9] (.ref b :: st) σ = if cats st ≤ 8 then callR (Mt E d 62 [.ref b] σ) (fun v σ => Rx E d 290 7 [l0, l1, l2, l3, l4, l5, l6, l7, l8, l9] (v.toList ++ st) σ) else none) ∧
  (∀ (E : sV) (d : Nat) (l0 l1 l2 l3 l4 l5 l6 l7 l8 l9 : Option Value) (x : Nat) (st : List Value) (σ : sS), Rx E d 290 7 [l0, l1, l2, l3, l4, l5, l6, l7, l8, l9] (.ref x :: st) σ = Rx E d 290 8 [ldrop l0, some (.ref x), l2, l3, l4, l5, l6, l7, l8, l9] st σ) ∧
  (∀ (E : sV) (d : Nat) (l0 l1 l2 l3 l4 l5 l6 l7 l8 l9 : Option Value) (st : List Value) (σ : sS), Rx E d 290 7 [l0, l1, l2, l3, l4, l5, l6, l7, l8, l9] (.null :: st) σ = Rx E d 290 8 [ldrop l0, some (.null), l2, l3, l4, l5, l6, l7, l8, l9] st σ) ∧
  (∀ (E : sV) (d : Nat) (l0 l1 l2 l3 l4 l5 l6 l7 l8 l9 : Option Value) (st : List Value) (σ : sS), Rx E d 290 8 [l0, l1, l2, l3, l4, l5, l6, l7, l8, l9] st σ = Rx E d 290 11 [l0, l1, l2, l3, l4, l5, l6, l7, l8, l9] (.ref σ.2.1 :: st) (hset σ.1 σ.2.1 (.inr (8, [.null, .null, .null, .null, .null, .null, .int 0, .int 0, .int 0, .int 0, .int 0, .int 0, .int 0, .null, .int 0, .null, .null, .null, .int 0, .int 0, .int 0, .int 0, .int 0])), σ.2.1 + 1, σ.2.2 + 23)) ∧
  (∀ (E : sV) (d : Nat) (l0 l1 l2 l3 l4 l5 l6 l7 l8 l9 : Option Value) (x : Nat) (st : List Value) (σ : sS), Rx E d 290 11 [l0, l1, l2, l3, l4, l5, l6, l7, l8, l9] (.ref x :: st) σ = Rx E d 290 12 [l0, l1, l2, l3, l4, l5, l6, l7, l8, l9] (.ref x :: .ref x :: st) σ) ∧
  (∀ (E : sV) (d : Nat) (l0 l1 l2 l3 l4 l5 l6 l7 l8 l9 : Option Value) (x : Int32) (st : List Value) (σ : sS), Rx E d 290 11 [l0, l1, l2, l3, l4, l5, l6, l7, l8, l9] (.int x :: st) σ = Rx E d 290 12 [l0, l1, l2, l3, l4, l5, l6, l7, l8, l9] (.int x :: .int x :: st) σ) ∧
  (∀ (E : sV) (d : Nat) (l0 l1 l2 l3 l4 l5 l6 l7 l8 l9 : Option Value) (b : Nat) (st : List Value) (σ : sS), Rx E d 290 12 [l0, l1, l2, l3, l4, l5, l6, l7, l8, l9] (.ref b :: st) σ = if cats st ≤ 8 then callR (Mt E d 127 [.ref b] σ) (fun v σ => Rx E d 290 15 [l0, l1, l2, l3, l4, l5, l6, l7, l8, l9] (v.toList ++ st) σ) else none) ∧
  (∀ (E : sV) (d : Nat) (l0 l1 l2 l3 l4 l5 l6 l7 l8 l9 : Option Value) (x : Nat) (st : List Value) (σ : sS), Rx E d 290 15 [l0, l1, l2, l3, l4, l5, l6, l7, l8, l9] (.ref x :: st) σ = Rx E d 290 16 [l0, ldrop l1, some (.ref x), l3, l4, l5, l6, l7, l8, l9] st σ) ∧
  (∀ (E : sV) (d : Nat) (l0 l1 l2 l3 l4 l5 l6 l7 l8 l9 : Option Value) (st : List Value) (σ : sS), Rx E d 290 15 [l0, l1, l2, l3, l4, l5, l6, l7, l8, l9] (.null :: st) σ = Rx E d 290 16 [l0, ldrop l1, some (.null), l3, l4, l5, l6, l7, l8, l9] st σ) ∧
  (∀ (E : sV) (d : Nat) (l0 l1 l2 l3 l4 l5 l6 l7 l8 l9 : Option Value) (st : List Value) (σ : sS), Rx E d 290 16 [l0, l1, l2, l3, l4, l5, l6, l7, l8, l9] st σ = Rx E d 290 17 [l0, l1, l2, l3, l4, l5, l6, l7, l8, l9] (.int (1) :: st) σ) ∧
  (∀ (E : sV) (d : Nat) (l0 l1 l2 l3 l4 l5 l6 l7 l8 l9 : Option Value) (n : Int32) (st : List Value) (σ : sS), Rx E d 290 17 [l0, l1, l2, l3, l4, l5, l6, l7, l8, l9] (.int n :: st) σ = if n < 0 ∨ 536870912 < n.toNatClampNeg * componentBytes .long then none else Rx E d 290 19 [l0, l1, l2, l3, l4, l5, l6, l7, l8, l9] (.ref σ.2.1 :: st) (hset σ.1 σ.2.1 (.inl (.long, (n.toNatClampNeg, .inr (.inl (fun _ => 0))))), σ.2.1 + 1, σ.2.2 + n.toNatClampNeg)) ∧
  (∀ (E : sV) (d : Nat) (l0 l1 l2 l3 l4 l5 l6 l7 l8 l9 : Option Value) (x : Nat) (st : List Value) (σ : sS), Rx E d 290 19 [l0, l1, l2, l3, l4, l5, l6, l7, l8, l9] (.ref x :: st) σ = Rx E d 290 20 [l0, l1, ldrop l2, some (.ref x), l4, l5, l6, l7, l8, l9] st σ) ∧
  (∀ (E : sV) (d : Nat) (l0 l1 l2 l3 l4 l5 l6 l7 l8 l9 : Option Value) (st : List Value) (σ : sS), Rx E d 290 19 [l0, l1, l2, l3, l4, l5, l6, l7, l8, l9] (.null :: st) σ = Rx E d 290 20 [l0, l1, ldrop l2, some (.null), l4, l5, l6, l7, l8, l9] st σ) ∧
  (∀ (E : sV) (d : Nat) (l0 l1 l2 l3 l4 l5 l6 l7 l8 l9 : Option Value) (st : List Value) (σ : sS), Rx E d 290 20 [l0, l1, l2, l3, l4, l5, l6, l7, l8, l9] st σ = Rx E d 290 21 [l0, l1, l2, l3, l4, l5, l6, l7, l8, l9] (.int (1) :: st) σ) ∧
  (∀ (E : sV) (d : Nat) (l0 l1 l2 l3 l4 l5 l6 l7 l8 l9 : Option Value) (n : Int32) (st : List Value) (σ : sS), Rx E d 290 21 [l0, l1, l2, l3, l4, l5, l6, l7, l8, l9] (.int n :: st) σ = if n < 0 ∨ 536870912 < n.toNatClampNeg * componentBytes .double then none else Rx E d 290 23 [l0, l1, l2, l3, l4, l5, l6, l7, l8, l9] (.ref σ.2.1 :: st) (hset σ.1 σ.2.1 (.inl (.double, (n.toNatClampNeg, .inr (.inr (.inr (.inl (fun _ => 0))))))), σ.2.1 + 1, σ.2.2 + n.toNatClampNeg)) ∧
  (∀ (E : sV) (d : Nat) (l0 l1 l2 l3 l4 l5 l6 l7 l8 l9 : Option Value) (x : Nat) (st : List Value) (σ : sS), Rx E d 290 23 [l0, l1, l2, l3, l4, l5, l6, l7, l8, l9] (.ref x :: st) σ = Rx E d 290 25 [l0, l1, l2, ldrop l3, some (.ref x), l5, l6, l7, l8, l9] st σ) ∧
  (∀ (E : sV) (d : Nat) (l0 l1 l2 l3 l4 l5 l6 l7 l8 l9 : Option Value) (st : List Value) (σ : sS), Rx E d 290 23 [l0, l1, l2, l3, l4, l5, l6, l7, l8, l9] (.null :: st) σ = Rx E d 290 25 [l0, l1, l2, ldrop l3, some (.null), l5, l6, l7, l8, l9] st σ) ∧
  (∀ (E : sV) (d : Nat) (l0 l1 l2 l3 l4 l5 l6 l7 l8 l9 : Option Value) (st : List Value) (σ : sS), Rx E d 290 25 [l0, l1, l2, l3, l4, l5, l6, l7, l8, l9] st σ = Rx E d 290 26 [l0, l1, l2, l3, l4, l5, l6, l7, l8, l9] (.int (0) :: st) σ) ∧
  (∀ (E : sV) (d : Nat) (l0 l1 l2 l3 l4 l5 l6 l7 l8 l9 : Option Value) (x : Int32) (st : List Value) (σ : sS), Rx E d 290 26 [l0, l1, l2, l3, l4, l5, l6, l7, l8, l9] (.int x :: st) σ = Rx E d 290 28 [l0, l1, l2, l3, ldrop l4, some (.int x), l6, l7, l8, l9] st σ) ∧
  (∀ (E : sV) (d : Nat) (l1 : Option Value) (l2 : Option Value) (l3 : Option Value) (l4 : Option Value) (l5 : Option Value) (l6 : Option Value) (l7 : Option Value) (l8 : Option Value) (l9 : Option Value) (x : Nat) (st : List Value) (σ : sS), Rx E d 290 30 [some (.ref x), l1, l2, l3, l4, l5, l6, l7, l8, l9] st σ = Rx E d 290 31 [some (.ref x), l1, l2, l3, l4, l5, l6, l7, l8, l9] (.ref x :: st) σ) ∧
  (∀ (E : sV) (d : Nat) (l1 : Option Value) (l2 : Option Value) (l3 : Option Value) (l4 : Option Value) (l5 : Option Value) (l6 : Option Value) (l7 : Option Value) (l8 : Option Value) (l9 : Option Value) (st : List Value) (σ : sS), Rx E d 290 30 [some (.null), l1, l2, l3, l4, l5, l6, l7, l8, l9] st σ = Rx E d 290 31 [some (.null), l1, l2, l3, l4, l5, l6, l7, l8, l9] (.null :: st) σ) ∧
  (∀ (E : sV) (d : Nat) (l0 l1 l2 l3 l4 l5 l6 l7 l8 l9 : Option Value) (a : Nat) (st : List Value) (σ : sS), Rx E d 290 31 [l0, l1, l2, l3, l4, l5, l6, l7, l8, l9] (.ref a :: st) σ = (alen σ.1 a).bind (fun n => Rx E d 290 32 [l0, l1, l2, l3, l4, l5, l6, l7, l8, l9] (.int n :: st) σ)) ∧
  (∀ (E : sV) (d : Nat) (l0 l1 l2 l3 l4 l5 l6 l7 l8 l9 : Option Value) (st : List Value) (σ : sS), Rx E d 290 32 [l0, l1, l2, l3, l4, l5, l6, l7, l8, l9] st σ = Rx E d 290 34 [l0, l1, l2, l3, l4, l5, l6, l7, l8, l9] (.int (7) :: st) σ) ∧
  (∀ (E : sV) (d : Nat) (l0 l1 l2 l3 l4 l5 l6 l7 l8 l9 : Option Value) (x y : Int32) (st : List Value) (σ : sS), Rx E d 290 34 [l0, l1, l2, l3, l4, l5, l6, l7, l8, l9] (.int y :: .int x :: st) σ = Rx E d 290 35 [l0, l1, l2, l3, l4, l5, l6, l7, l8, l9] (.int (x - y) :: st) σ) ∧
  (∀ (E : sV) (d : Nat) (l0 l1 l2 l3 l4 l5 l6 l7 l8 l9 : Option Value) (x y : Int32) (st : List Value) (σ : sS), Rx E d 290 35 [l0, l1, l2, l3, l4, l5, l6, l7, l8, l9] (.int y :: .int x :: st) σ = if y < x then Rx E d 290 3007 [l0, l1, l2, l3, l4, l5, l6, l7, l8, l9] st σ else Rx E d 290 38 [l0, l1, l2, l3, l4, l5, l6, l7, l8, l9] st σ) ∧
  (∀ (E : sV) (d : Nat) (l1 : Option Value) (l2 : Option Value) (l3 : Option Value) (l4 : Option Value) (l5 : Option Value) (l6 : Option Value) (l7 : Option Value) (l8 : Option Value) (l9 : Option Value) (x : Nat) (st : List Value) (σ : sS), Rx E d 290 38 [some (.ref x), l1, l2, l3, l4, l5, l6, l7, l8, l9] st σ = Rx E d 290 39 [some (.ref x), l1, l2, l3, l4, l5, l6, l7, l8, l9] (.ref x :: st) σ) ∧
  (∀ (E : sV) (d : Nat) (l1 : Option Value) (l2 : Option Value) (l3 : Option Value) (l4 : Option Value) (l5 : Option Value) (l6 : Option Value) (l7 : Option Value) (l8 : Option Value) (l9 : Option Value) (st : List Value) (σ : sS), Rx E d 290 38 [some (.null), l1, l2, l3, l4, l5, l6, l7, l8, l9] st σ = Rx E d 290 39 [some (.null), l1, l2, l3, l4, l5, l6, l7, l8, l9] (.null :: st) σ) := ⟨fun _ _ _ _ _ _ _ _ _ _ _ _ _ _ => Rx_new gMT_290 d290_0 rfl rfl rfl rfl rfl,
  fun _ _ _ _ _ _ _ _ _ _ _ _ _ _ _ => Rx_of gMT_290 d290_3 rfl,
  fun _ _ _ _ _ _ _ _ _ _ _ _ _ _ _ => Rx_of gMT_290 d290_3 rfl,
  fun _ _ _ _ _ _ _ _ _ _ _ _ _ _ _ => Rx_callI gMT_290 d290_4 rfl rfl rfl (by decide) rfl,
  fun _ _ _ _ _ _ _ _ _ _ _ _ _ _ _ => Rx_of gMT_290 d290_7 rfl,
  fun _ _ _ _ _ _ _ _ _ _ _ _ _ _ => Rx_of gMT_290 d290_7 rfl,
  fun _ _ _ _ _ _ _ _ _ _ _ _ _ _ => Rx_new gMT_290 d290_8 rfl rfl rfl rfl rfl,
  fun _ _ _ _ _ _ _ _ _ _ _ _ _ _ _ => Rx_of gMT_290 d290_11 rfl,
  fun _ _ _ _ _ _ _ _ _ _ _ _ _ _ _ => Rx_of gMT_290 d290_11 rfl,
  fun _ _ _ _ _ _ _ _ _ _ _ _ _ _ _ => Rx_callI gMT_290 d290_12 rfl rfl rfl (by decide) rfl,
  fun _ _ _ _ _ _ _ _ _ _ _ _ _ _ _ => Rx_of gMT_290 d290_15 rfl,
  fun _ _ _ _ _ _ _ _ _ _ _ _ _ _ => Rx_of gMT_290 d290_15 rfl,
  fun _ _ _ _ _ _ _ _ _ _ _ _ _ _ => Rx_of gMT_290 d290_16 rfl,
  fun _ _ _ _ _ _ _ _ _ _ _ _ _ _ _ => Rx_newa gMT_290 d290_17 rfl rfl rfl,
  fun _ _ _ _ _ _ _ _ _ _ _ _ _ _ _ => Rx_of gMT_290 d290_19 rfl,
  fun _ _ _ _ _ _ _ _ _ _ _ _ _ _ => Rx_of gMT_290 d290_19 rfl,
  fun _ _ _ _ _ _ _ _ _ _ _ _ _ _ => Rx_of gMT_290 d290_20 rfl,
  fun _ _ _ _ _ _ _ _ _ _ _ _ _ _ _ => Rx_newa gMT_290 d290_21 rfl rfl rfl,
  fun _ _ _ _ _ _ _ _ _ _ _ _ _ _ _ => Rx_of gMT_290 d290_23 rfl,
  fun _ _ _ _ _ _ _ _ _ _ _ _ _ _ => Rx_of gMT_290 d290_23 rfl,
  fun _ _ _ _ _ _ _ _ _ _ _ _ _ _ => Rx_of gMT_290 d290_25 rfl,
  fun _ _ _ _ _ _ _ _ _ _ _ _ _ _ _ => Rx_of gMT_290 d290_26 rfl,
  fun _ _ _ _ _ _ _ _ _ _ _ _ _ _ => Rx_of gMT_290 d290_30 rfl,
  fun _ _ _ _ _ _ _ _ _ _ _ _ _ => Rx_of gMT_290 d290_30 rfl,
  fun _ _ _ _ _ _ _ _ _ _ _ _ _ _ _ => Rx_alen gMT_290 d290_31 rfl,
  fun _ _ _ _ _ _ _ _ _ _ _ _ _ _ => Rx_of gMT_290 d290_32 rfl,
  fun _ _ _ _ _ _ _ _ _ _ _ _ _ _ _ _ => Rx_of gMT_290 d290_34 rfl,
  fun _ _ _ _ _ _ _ _ _ _ _ _ _ _ _ _ => Rx_icmp gMT_290 d290_35 rfl rfl (by decide),
  fun _ _ _ _ _ _ _ _ _ _ _ _ _ _ => Rx_of gMT_290 d290_38 rfl,
  fun _ _ _ _ _ _ _ _ _ _ _ _ _ => Rx_of gMT_290 d290_38 rfl⟩
theorem QLaw_law_1 : (∀ (E : sV) (d : Nat) (l0 : Option Value) (l1 : Option Value) (l2 : Option Value) (l3 : Option Value) (l4 : Option Value) (l6 : Option Value) (l7 : Option Value) (l8 : Option Value) (l9 : Option Value) (x : Int32) (st : List Value) (σ : sS), Rx E d 290 39 [l0, l1, l2, l3, l4, some (.int x), l6, l7, l8, l9] st σ = Rx E d 290 41 [l0, l1, l2, l3, l4, some (.int x), l6, l7, l8, l9] (.int x :: st) σ) ∧
  (∀ (E : sV) (d : Nat) (l0 l1 l2 l3 l4 l5 l6 l7 l8 l9 : Option Value) (i : Int32) (a : Nat) (st : List Value) (σ : sS), Rx E d 290 41 [l0, l1, l2, l3, l4, l5, l6, l7, l8, l9] (.int i :: .ref a :: st) σ = (aldI .int σ.1 a i).bind (fun v => Rx E d 290 42 [l0, l1, l2, l3, l4, l5, l6, l7, l8, l9] (v :: st) σ)) ∧
  (∀ (E : sV) (d : Nat) (l0 l1 l2 l3 l4 l5 l6 l7 l8 l9 : Option Value) (st : List Value) (σ : sS), Rx E d 290 42 [l0, l1, l2, l3, l4, l5, l6, l7, l8, l9] st σ = Rx E d 290 44 [l0, l1, l2, l3, l4, l5, l6, l7, l8, l9] (.int (63) :: st) σ) ∧
  (∀ (E : sV) (d : Nat) (l0 l1 l2 l3 l4 l5 l6 l7 l8 l9 : Option Value) (x y : Int32) (st : List Value) (σ : sS), Rx E d 290 44 [l0, l1, l2, l3, l4, l5, l6, l7, l8, l9] (.int y :: .int x :: st) σ = Rx E d 290 45 [l0, l1, l2, l3, l4, l5, l6, l7, l8, l9] (.int (x &&& y) :: st) σ) ∧
  (∀ (E : sV) (d : Nat) (l0 l1 l2 l3 l4 l5 l6 l7 l8 l9 : Option Value) (st : List Value) (σ : sS), Rx E d 290 45 [l0, l1, l2, l3, l4, l5, l6, l7, l8, l9] (.int (0) :: st) σ = Rx E d 290 264 [l0, l1, l2, l3, l4, l5, l6, l7, l8, l9] st σ) ∧
  (∀ (E : sV) (d : Nat) (l0 l1 l2 l3 l4 l5 l6 l7 l8 l9 : Option Value) (st : List Value) (σ : sS), Rx E d 290 45 [l0, l1, l2, l3, l4, l5, l6, l7, l8, l9] (.int (1) :: st) σ = Rx E d 290 384 [l0, l1, l2, l3, l4, l5, l6, l7, l8, l9] st σ) ∧
  (∀ (E : sV) (d : Nat) (l0 l1 l2 l3 l4 l5 l6 l7 l8 l9 : Option Value) (st : List Value) (σ : sS), Rx E d 290 45 [l0, l1, l2, l3, l4, l5, l6, l7, l8, l9] (.int (2) :: st) σ = Rx E d 290 440 [l0, l1, l2, l3, l4, l5, l6, l7, l8, l9] st σ) ∧
  (∀ (E : sV) (d : Nat) (l0 l1 l2 l3 l4 l5 l6 l7 l8 l9 : Option Value) (st : List Value) (σ : sS), Rx E d 290 45 [l0, l1, l2, l3, l4, l5, l6, l7, l8, l9] (.int (3) :: st) σ = Rx E d 290 508 [l0, l1, l2, l3, l4, l5, l6, l7, l8, l9] st σ) ∧
  (∀ (E : sV) (d : Nat) (l0 l1 l2 l3 l4 l5 l6 l7 l8 l9 : Option Value) (st : List Value) (σ : sS), Rx E d 290 45 [l0, l1, l2, l3, l4, l5, l6, l7, l8, l9] (.int (4) :: st) σ = Rx E d 290 564 [l0, l1, l2, l3, l4, l5, l6, l7, l8, l9] st σ) ∧
  (∀ (E : sV) (d : Nat) (l0 l1 l2 l3 l4 l5 l6 l7 l8 l9 : Option Value) (st : List Value) (σ : sS), Rx E d 290 45 [l0, l1, l2, l3, l4, l5, l6, l7, l8, l9] (.int (5) :: st) σ = Rx E d 290 634 [l0, l1, l2, l3, l4, l5, l6, l7, l8, l9] st σ) ∧
  (∀ (E : sV) (d : Nat) (l0 l1 l2 l3 l4 l5 l6 l7 l8 l9 : Option Value) (st : List Value) (σ : sS), Rx E d 290 45 [l0, l1, l2, l3, l4, l5, l6, l7, l8, l9] (.int (6) :: st) σ = Rx E d 290 716 [l0, l1, l2, l3, l4, l5, l6, l7, l8, l9] st σ) ∧
  (∀ (E : sV) (d : Nat) (l0 l1 l2 l3 l4 l5 l6 l7 l8 l9 : Option Value) (st : List Value) (σ : sS), Rx E d 290 45 [l0, l1, l2, l3, l4, l5, l6, l7, l8, l9] (.int (7) :: st) σ = Rx E d 290 784 [l0, l1, l2, l3, l4, l5, l6, l7, l8, l9] st σ) ∧
  (∀ (E : sV) (d : Nat) (l0 l1 l2 l3 l4 l5 l6 l7 l8 l9 : Option Value) (st : List Value) (σ : sS), Rx E d 290 45 [l0, l1, l2, l3, l4, l5, l6, l7, l8, l9] (.int (8) :: st) σ = Rx E d 290 852 [l0, l1, l2, l3, l4, l5, l6, l7, l8, l9] st σ) ∧
  (∀ (E : sV) (d : Nat) (l0 l1 l2 l3 l4 l5 l6 l7 l8 l9 : Option Value) (st : List Value) (σ : sS), Rx E d 290 45 [l0, l1, l2, l3, l4, l5, l6, l7, l8, l9] (.int (9) :: st) σ = Rx E d 290 920 [l0, l1, l2, l3, l4, l5, l6, l7, l8, l9] st σ) ∧
  (∀ (E : sV) (d : Nat) (l0 l1 l2 l3 l4 l5 l6 l7 l8 l9 : Option Value) (st : List Value) (σ : sS), Rx E d 290 45 [l0, l1, l2, l3, l4, l5, l6, l7, l8, l9] (.int (10) :: st) σ = Rx E d 290 976 [l0, l1, l2, l3, l4, l5, l6, l7, l8, l9] st σ) ∧
  (∀ (E : sV) (d : Nat) (l0 l1 l2 l3 l4 l5 l6 l7 l8 l9 : Option Value) (st : List Value) (σ : sS), Rx E d 290 45 [l0, l1, l2, l3, l4, l5, l6, l7, l8, l9] (.int (11) :: st) σ = Rx E d 290 1044 [l0, l1, l2, l3, l4, l5, l6, l7, l8, l9] st σ) ∧
  (∀ (E : sV) (d : Nat) (l0 l1 l2 l3 l4 l5 l6 l7 l8 l9 : Option Value) (st : List Value) (σ : sS), Rx E d 290 45 [l0, l1, l2, l3, l4, l5, l6, l7, l8, l9] (.int (12) :: st) σ = Rx E d 290 1057 [l0, l1, l2, l3, l4, l5, l6, l7, l8, l9] st σ) ∧
  (∀ (E : sV) (d : Nat) (l0 l1 l2 l3 l4 l5 l6 l7 l8 l9 : Option Value) (st : List Value) (σ : sS), Rx E d 290 45 [l0, l1, l2, l3, l4, l5, l6, l7, l8, l9] (.int (13) :: st) σ = Rx E d 290 1082 [l0, l1, l2, l3, l4, l5, l6, l7, l8, l9] st σ) ∧
  (∀ (E : sV) (d : Nat) (l0 l1 l2 l3 l4 l5 l6 l7 l8 l9 : Option Value) (st : List Value) (σ : sS), Rx E d 290 45 [l0, l1, l2, l3, l4, l5, l6, l7, l8, l9] (.int (14) :: st) σ = Rx E d 290 1138 [l0, l1, l2, l3, l4, l5, l6, l7, l8, l9] st σ) ∧
  (∀ (E : sV) (d : Nat) (l0 l1 l2 l3 l4 l5 l6 l7 l8 l9 : Option Value) (st : List Value) (σ : sS), Rx E d 290 45 [l0, l1, l2, l3, l4, l5, l6, l7, l8, l9] (.int (15) :: st) σ = Rx E d 290 1194 [l0, l1, l2, l3, l4, l5, l6, l7, l8, l9] st σ) ∧
  (∀ (E : sV) (d : Nat) (l0 l1 l2 l3 l4 l5 l6 l7 l8 l9 : Option Value) (st : List Value) (σ : sS), Rx E d 290 45 [l0, l1, l2, l3, l4, l5, l6, l7, l8, l9] (.int (16) :: st) σ = Rx E d 290 1250 [l0, l1, l2, l3, l4, l5, l6, l7, l8, l9] st σ) ∧
  (∀ (E : sV) (d : Nat) (l0 l1 l2 l3 l4 l5 l6 l7 l8 l9 : Option Value) (st : List Value) (σ : sS), Rx E d 290 45 [l0, l1, l2, l3, l4, l5, l6, l7, l8, l9] (.int (17) :: st) σ = Rx E d 290 1306 [l0, l1, l2, l3, l4, l5, l6, l7, l8, l9] st σ) ∧
  (∀ (E : sV) (d : Nat) (l0 l1 l2 l3 l4 l5 l6 l7 l8 l9 : Option Value) (st : List Value) (σ : sS), Rx E d 290 45 [l0, l1, l2, l3, l4, l5, l6, l7, l8, l9] (.int (18) :: st) σ = Rx E d 290 1362 [l0, l1, l2, l3, l4, l5, l6, l7, l8, l9] st σ) ∧
  (∀ (E : sV) (d : Nat) (l0 l1 l2 l3 l4 l5 l6 l7 l8 l9 : Option Value) (st : List Value) (σ : sS), Rx E d 290 45 [l0, l1, l2, l3, l4, l5, l6, l7, l8, l9] (.int (19) :: st) σ = Rx E d 290 1420 [l0, l1, l2, l3, l4, l5, l6, l7, l8, l9] st σ) ∧
  (∀ (E : sV) (d : Nat) (l0 l1 l2 l3 l4 l5 l6 l7 l8 l9 : Option Value) (st : List Value) (σ : sS), Rx E d 290 45 [l0, l1, l2, l3, l4, l5, l6, l7, l8, l9] (.int (20) :: st) σ = Rx E d 290 1490 [l0, l1, l2, l3, l4, l5, l6, l7, l8, l9] st σ) ∧
  (∀ (E : sV) (d : Nat) (l0 l1 l2 l3 l4 l5 l6 l7 l8 l9 : Option Value) (st : List Value) (σ : sS), Rx E d 290 45 [l0, l1, l2, l3, l4, l5, l6, l7, l8, l9] (.int (21) :: st) σ = Rx E d 290 1546 [l0, l1, l2, l3, l4, l5, l6, l7, l8, l9] st σ) ∧
  (∀ (E : sV) (d : Nat) (l0 l1 l2 l3 l4 l5 l6 l7 l8 l9 : Option Value) (st : List Value) (σ : sS), Rx E d 290 45 [l0, l1, l2, l3, l4, l5, l6, l7, l8, l9] (.int (22) :: st) σ = Rx E d 290 1602 [l0, l1, l2, l3, l4, l5, l6, l7, l8, l9] st σ) ∧
  (∀ (E : sV) (d : Nat) (l0 l1 l2 l3 l4 l5 l6 l7 l8 l9 : Option Value) (st : List Value) (σ : sS), Rx E d 290 45 [l0, l1, l2, l3, l4, l5, l6, l7, l8, l9] (.int (23) :: st) σ = Rx E d 290 1658 [l0, l1, l2, l3, l4, l5, l6, l7, l8, l9] st σ) ∧
  (∀ (E : sV) (d : Nat) (l0 l1 l2 l3 l4 l5 l6 l7 l8 l9 : Option Value) (st : List Value) (σ : sS), Rx E d 290 45 [l0, l1, l2, l3, l4, l5, l6, l7, l8, l9] (.int (24) :: st) σ = Rx E d 290 1714 [l0, l1, l2, l3, l4, l5, l6, l7, l8, l9] st σ) ∧
  (∀ (E : sV) (d : Nat) (l0 l1 l2 l3 l4 l5 l6 l7 l8 l9 : Option Value) (st : List Value) (σ : sS), Rx E d 290 45 [l0, l1, l2, l3, l4, l5, l6, l7, l8, l9] (.int (25) :: st) σ = Rx E d 290 1770 [l0, l1, l2, l3, l4, l5, l6, l7, l8, l9] st σ) := ⟨fun _ _ _ _ _ _ _ _ _ _ _ _ _ _ => Rx_of gMT_290 d290_39 rfl,
  fun _ _ _ _ _ _ _ _ _ _ _ _ _ _ _ _ => Rx_ald gMT_290 d290_41 rfl rfl,
  fun _ _ _ _ _ _ _ _ _ _ _ _ _ _ => Rx_of gMT_290 d290_42 rfl,
  fun _ _ _ _ _ _ _ _ _ _ _ _ _ _ _ _ => Rx_of gMT_290 d290_44 rfl,
  fun _ _ _ _ _ _ _ _ _ _ _ _ _ _ => Rx_tsw gMT_290 d290_45 rfl (by decide) rfl (by decide) rfl,
  fun _ _ _ _ _ _ _ _ _ _ _ _ _ _ => Rx_tsw gMT_290 d290_45 rfl (by decide) rfl (by decide) rfl,
  fun _ _ _ _ _ _ _ _ _ _ _ _ _ _ => Rx_tsw gMT_290 d290_45 rfl (by decide) rfl (by decide) rfl,
  fun _ _ _ _ _ _ _ _ _ _ _ _ _ _ => Rx_tsw gMT_290 d290_45 rfl (by decide) rfl (by decide) rfl,
  fun _ _ _ _ _ _ _ _ _ _ _ _ _ _ => Rx_tsw gMT_290 d290_45 rfl (by decide) rfl (by decide) rfl,
  fun _ _ _ _ _ _ _ _ _ _ _ _ _ _ => Rx_tsw gMT_290 d290_45 rfl (by decide) rfl (by decide) rfl,
  fun _ _ _ _ _ _ _ _ _ _ _ _ _ _ => Rx_tsw gMT_290 d290_45 rfl (by decide) rfl (by decide) rfl,
  fun _ _ _ _ _ _ _ _ _ _ _ _ _ _ => Rx_tsw gMT_290 d290_45 rfl (by decide) rfl (by decide) rfl,
  fun _ _ _ _ _ _ _ _ _ _ _ _ _ _ => Rx_tsw gMT_290 d290_45 rfl (by decide) rfl (by decide) rfl,
  fun _ _ _ _ _ _ _ _ _ _ _ _ _ _ => Rx_tsw gMT_290 d290_45 rfl (by decide) rfl (by decide) rfl,
  fun _ _ _ _ _ _ _ _ _ _ _ _ _ _ => Rx_tsw gMT_290 d290_45 rfl (by decide) rfl (by decide) rfl,
  fun _ _ _ _ _ _ _ _ _ _ _ _ _ _ => Rx_tsw gMT_290 d290_45 rfl (by decide) rfl (by decide) rfl,
  fun _ _ _ _ _ _ _ _ _ _ _ _ _ _ => Rx_tsw gMT_290 d290_45 rfl (by decide) rfl (by decide) rfl,
  fun _ _ _ _ _ _ _ _ _ _ _ _ _ _ => Rx_tsw gMT_290 d290_45 rfl (by decide) rfl (by decide) rfl,
  fun _ _ _ _ _ _ _ _ _ _ _ _ _ _ => Rx_tsw gMT_290 d290_45 rfl (by decide) rfl (by decide) rfl,
  fun _ _ _ _ _ _ _ _ _ _ _ _ _ _ => Rx_tsw gMT_290 d290_45 rfl (by decide) rfl (by decide) rfl,
  fun _ _ _ _ _ _ _ _ _ _ _ _ _ _ => Rx_tsw gMT_290 d290_45 rfl (by decide) rfl (by decide) rfl,
  fun _ _ _ _ _ _ _ _ _ _ _ _ _ _ => Rx_tsw gMT_290 d290_45 rfl (by decide) rfl (by decide) rfl,
  fun _ _ _ _ _ _ _ _ _ _ _ _ _ _ => Rx_tsw gMT_290 d290_45 rfl (by decide) rfl (by decide) rfl,
  fun _ _ _ _ _ _ _ _ _ _ _ _ _ _ => Rx_tsw gMT_290 d290_45 rfl (by decide) rfl (by decide) rfl,
  fun _ _ _ _ _ _ _ _ _ _ _ _ _ _ => Rx_tsw gMT_290 d290_45 rfl (by decide) rfl (by decide) rfl,
  fun _ _ _ _ _ _ _ _ _ _ _ _ _ _ => Rx_tsw gMT_290 d290_45 rfl (by decide) rfl (by decide) rfl,
  fun _ _ _ _ _ _ _ _ _ _ _ _ _ _ => Rx_tsw gMT_290 d290_45 rfl (by decide) rfl (by decide) rfl,
  fun _ _ _ _ _ _ _ _ _ _ _ _ _ _ => Rx_tsw gMT_290 d290_45 rfl (by decide) rfl (by decide) rfl,
  fun _ _ _ _ _ _ _ _ _ _ _ _ _ _ => Rx_tsw gMT_290 d290_45 rfl (by decide) rfl (by decide) rfl,
  fun _ _ _ _ _ _ _ _ _ _ _ _ _ _ => Rx_tsw gMT_290 d290_45 rfl (by decide) rfl (by decide) rfl⟩
theorem QLaw_law_2 : (∀ (E : sV) (d : Nat) (l0 l1 l2 l3 l4 l5 l6 l7 l8 l9 : Option Value) (st : List Value) (σ : sS), Rx E d 290 45 [l0, l1, l2, l3, l4, l5, l6, l7, l8, l9] (.int (26) :: st) σ = Rx E d 290 1833 [l0, l1, l2, l3, l4, l5, l6, l7, l8, l9] st σ) ∧
  (∀ (E : sV) (d : Nat) (l0 l1 l2 l3 l4 l5 l6 l7 l8 l9 : Option Value) (st : List Value) (σ : sS), Rx E d 290 45 [l0, l1, l2, l3, l4, l5, l6, l7, l8, l9] (.int (27) :: st) σ = Rx E d 290 1889 [l0, l1, l2, l3, l4, l5, l6, l7, l8, l9] st σ) ∧
  (∀ (E : sV) (d : Nat) (l0 l1 l2 l3 l4 l5 l6 l7 l8 l9 : Option Value) (st : List Value) (σ : sS), Rx E d 290 45 [l0, l1, l2, l3, l4, l5, l6, l7, l8, l9] (.int (28) :: st) σ = Rx E d 290 1964 [l0, l1, l2, l3, l4, l5, l6, l7, l8, l9] st σ) ∧
  (∀ (E : sV) (d : Nat) (l0 l1 l2 l3 l4 l5 l6 l7 l8 l9 : Option Value) (st : List Value) (σ : sS), Rx E d 290 45 [l0, l1, l2, l3, l4, l5, l6, l7, l8, l9] (.int (29) :: st) σ = Rx E d 290 2032 [l0, l1, l2, l3, l4, l5, l6, l7, l8, l9] st σ) ∧
  (∀ (E : sV) (d : Nat) (l0 l1 l2 l3 l4 l5 l6 l7 l8 l9 : Option Value) (st : List Value) (σ : sS), Rx E d 290 45 [l0, l1, l2, l3, l4, l5, l6, l7, l8, l9] (.int (30) :: st) σ = Rx E d 290 2088 [l0, l1, l2, l3, l4, l5, l6, l7, l8, l9] st σ) ∧
  (∀ (E : sV) (d : Nat) (l0 l1 l2 l3 l4 l5 l6 l7 l8 l9 : Option Value) (st : List Value) (σ : sS), Rx E d 290 45 [l0, l1, l2, l3, l4, l5, l6, l7, l8, l9] (.int (31) :: st) σ = Rx E d 290 2144 [l0, l1, l2, l3, l4, l5, l6, l7, l8, l9] st σ) ∧
  (∀ (E : sV) (d : Nat) (l0 l1 l2 l3 l4 l5 l6 l7 l8 l9 : Option Value) (st : List Value) (σ : sS), Rx E d 290 45 [l0, l1, l2, l3, l4, l5, l6, l7, l8, l9] (.int (32) :: st) σ = Rx E d 290 2200 [l0, l1, l2, l3, l4, l5, l6, l7, l8, l9] st σ) ∧
  (∀ (E : sV) (d : Nat) (l0 l1 l2 l3 l4 l5 l6 l7 l8 l9 : Option Value) (st : List Value) (σ : sS), Rx E d 290 45 [l0, l1, l2, l3, l4, l5, l6, l7, l8, l9] (.int (33) :: st) σ = Rx E d 290 2268 [l0, l1, l2, l3, l4, l5, l6, l7, l8, l9] st σ) ∧
  (∀ (E : sV) (d : Nat) (l0 l1 l2 l3 l4 l5 l6 l7 l8 l9 : Option Value) (st : List Value) (σ : sS), Rx E d 290 45 [l0, l1, l2, l3, l4, l5, l6, l7, l8, l9] (.int (34) :: st) σ = Rx E d 290 2324 [l0, l1, l2, l3, l4, l5, l6, l7, l8, l9] st σ) ∧
  (∀ (E : sV) (d : Nat) (l0 l1 l2 l3 l4 l5 l6 l7 l8 l9 : Option Value) (st : List Value) (σ : sS), Rx E d 290 45 [l0, l1, l2, l3, l4, l5, l6, l7, l8, l9] (.int (35) :: st) σ = Rx E d 290 2338 [l0, l1, l2, l3, l4, l5, l6, l7, l8, l9] st σ) ∧
  (∀ (E : sV) (d : Nat) (l0 l1 l2 l3 l4 l5 l6 l7 l8 l9 : Option Value) (st : List Value) (σ : sS), Rx E d 290 45 [l0, l1, l2, l3, l4, l5, l6, l7, l8, l9] (.int (36) :: st) σ = Rx E d 290 2352 [l0, l1, l2, l3, l4, l5, l6, l7, l8, l9] st σ) ∧
  (∀ (E : sV) (d : Nat) (l0 l1 l2 l3 l4 l5 l6 l7 l8 l9 : Option Value) (st : List Value) (σ : sS), Rx E d 290 45 [l0, l1, l2, l3, l4, l5, l6, l7, l8, l9] (.int (37) :: st) σ = Rx E d 290 2365 [l0, l1, l2, l3, l4, l5, l6, l7, l8, l9] st σ) ∧
  (∀ (E : sV) (d : Nat) (l0 l1 l2 l3 l4 l5 l6 l7 l8 l9 : Option Value) (st : List Value) (σ : sS), Rx E d 290 45 [l0, l1, l2, l3, l4, l5, l6, l7, l8, l9] (.int (38) :: st) σ = Rx E d 290 2430 [l0, l1, l2, l3, l4, l5, l6, l7, l8, l9] st σ) ∧
  (∀ (E : sV) (d : Nat) (l0 l1 l2 l3 l4 l5 l6 l7 l8 l9 : Option Value) (st : List Value) (σ : sS), Rx E d 290 45 [l0, l1, l2, l3, l4, l5, l6, l7, l8, l9] (.int (39) :: st) σ = Rx E d 290 2473 [l0, l1, l2, l3, l4, l5, l6, l7, l8, l9] st σ) ∧
  (∀ (E : sV) (d : Nat) (l0 l1 l2 l3 l4 l5 l6 l7 l8 l9 : Option Value) (st : List Value) (σ : sS), Rx E d 290 45 [l0, l1, l2, l3, l4, l5, l6, l7, l8, l9] (.int (40) :: st) σ = Rx E d 290 2529 [l0, l1, l2, l3, l4, l5, l6, l7, l8, l9] st σ) ∧
  (∀ (E : sV) (d : Nat) (l0 l1 l2 l3 l4 l5 l6 l7 l8 l9 : Option Value) (st : List Value) (σ : sS), Rx E d 290 45 [l0, l1, l2, l3, l4, l5, l6, l7, l8, l9] (.int (41) :: st) σ = Rx E d 290 2542 [l0, l1, l2, l3, l4, l5, l6, l7, l8, l9] st σ) ∧
  (∀ (E : sV) (d : Nat) (l0 l1 l2 l3 l4 l5 l6 l7 l8 l9 : Option Value) (st : List Value) (σ : sS), Rx E d 290 45 [l0, l1, l2, l3, l4, l5, l6, l7, l8, l9] (.int (42) :: st) σ = Rx E d 290 2598 [l0, l1, l2, l3, l4, l5, l6, l7, l8, l9] st σ) ∧
  (∀ (E : sV) (d : Nat) (l0 l1 l2 l3 l4 l5 l6 l7 l8 l9 : Option Value) (st : List Value) (σ : sS), Rx E d 290 45 [l0, l1, l2, l3, l4, l5, l6, l7, l8, l9] (.int (43) :: st) σ = Rx E d 290 2654 [l0, l1, l2, l3, l4, l5, l6, l7, l8, l9] st σ) ∧
  (∀ (E : sV) (d : Nat) (l0 l1 l2 l3 l4 l5 l6 l7 l8 l9 : Option Value) (st : List Value) (σ : sS), Rx E d 290 45 [l0, l1, l2, l3, l4, l5, l6, l7, l8, l9] (.int (44) :: st) σ = Rx E d 290 2710 [l0, l1, l2, l3, l4, l5, l6, l7, l8, l9] st σ) ∧
  (∀ (E : sV) (d : Nat) (l0 l1 l2 l3 l4 l5 l6 l7 l8 l9 : Option Value) (st : List Value) (σ : sS), Rx E d 290 45 [l0, l1, l2, l3, l4, l5, l6, l7, l8, l9] (.int (45) :: st) σ = Rx E d 290 2768 [l0, l1, l2, l3, l4, l5, l6, l7, l8, l9] st σ) ∧
  (∀ (E : sV) (d : Nat) (l0 l1 l2 l3 l4 l5 l6 l7 l8 l9 : Option Value) (st : List Value) (σ : sS), Rx E d 290 45 [l0, l1, l2, l3, l4, l5, l6, l7, l8, l9] (.int (46) :: st) σ = Rx E d 290 2812 [l0, l1, l2, l3, l4, l5, l6, l7, l8, l9] st σ) ∧
  (∀ (E : sV) (d : Nat) (l0 l1 l2 l3 l4 l5 l6 l7 l8 l9 : Option Value) (st : List Value) (σ : sS), Rx E d 290 45 [l0, l1, l2, l3, l4, l5, l6, l7, l8, l9] (.int (47) :: st) σ = Rx E d 290 2856 [l0, l1, l2, l3, l4, l5, l6, l7, l8, l9] st σ) ∧
  (∀ (E : sV) (d : Nat) (l0 l1 l2 l3 l4 l5 l6 l7 l8 l9 : Option Value) (st : List Value) (σ : sS), Rx E d 290 45 [l0, l1, l2, l3, l4, l5, l6, l7, l8, l9] (.int (48) :: st) σ = Rx E d 290 2900 [l0, l1, l2, l3, l4, l5, l6, l7, l8, l9] st σ) ∧
  (∀ (E : sV) (d : Nat) (l0 l1 l2 l3 l4 l5 l6 l7 l8 l9 : Option Value) (st : List Value) (σ : sS), Rx E d 290 45 [l0, l1, l2, l3, l4, l5, l6, l7, l8, l9] (.int (49) :: st) σ = Rx E d 290 2944 [l0, l1, l2, l3, l4, l5, l6, l7, l8, l9] st σ) ∧
  (∀ (E : sV) (d : Nat) (l0 l1 l2 l3 l4 l5 l6 l7 l8 l9 : Option Value) (st : List Value) (σ : sS), Rx E d 290 45 [l0, l1, l2, l3, l4, l5, l6, l7, l8, l9] (.int (50) :: st) σ = Rx E d 290 2957 [l0, l1, l2, l3, l4, l5, l6, l7, l8, l9] st σ) ∧
  (∀ (E : sV) (d : Nat) (l0 l1 l2 l3 l4 l5 l6 l7 l8 l9 : Option Value) (x : Int32) (st : List Value) (σ : sS) (h : x.toInt < 0 ∨ 50 < x.toInt), Rx E d 290 45 [l0, l1, l2, l3, l4, l5, l6, l7, l8, l9] (.int x :: st) σ = Rx E d 290 3001 [l0, l1, l2, l3, l4, l5, l6, l7, l8, l9] st σ) ∧
  (∀ (E : sV) (d : Nat) (l0 : Option Value) (l2 : Option Value) (l3 : Option Value) (l4 : Option Value) (l5 : Option Value) (l6 : Option Value) (l7 : Option Value) (l8 : Option Value) (l9 : Option Value) (x : Nat) (st : List Value) (σ : sS), Rx E d 290 264 [l0, some (.ref x), l2, l3, l4, l5, l6, l7, l8, l9] st σ = Rx E d 290 265 [l0, some (.ref x), l2, l3, l4, l5, l6, l7, l8, l9] (.ref x :: st) σ) ∧
  (∀ (E : sV) (d : Nat) (l0 : Option Value) (l2 : Option Value) (l3 : Option Value) (l4 : Option Value) (l5 : Option Value) (l6 : Option Value) (l7 : Option Value) (l8 : Option Value) (l9 : Option Value) (st : List Value) (σ : sS), Rx E d 290 264 [l0, some (.null), l2, l3, l4, l5, l6, l7, l8, l9] st σ = Rx E d 290 265 [l0, some (.null), l2, l3, l4, l5, l6, l7, l8, l9] (.null :: st) σ) ∧
  (∀ (E : sV) (d : Nat) (l1 : Option Value) (l2 : Option Value) (l3 : Option Value) (l4 : Option Value) (l5 : Option Value) (l6 : Option Value) (l7 : Option Value) (l8 : Option Value) (l9 : Option Value) (x : Nat) (st : List Value) (σ : sS), Rx E d 290 265 [some (.ref x), l1, l2, l3, l4, l5, l6, l7, l8, l9] st σ = Rx E d 290 266 [some (.ref x), l1, l2, l3, l4, l5, l6, l7, l8, l9] (.ref x :: st) σ) ∧
  (∀ (E : sV) (d : Nat) (l1 : Option Value) (l2 : Option Value) (l3 : Option Value) (l4 : Option Value) (l5 : Option Value) (l6 : Option Value) (l7 : Option Value) (l8 : Option Value) (l9 : Option Value) (st : List Value) (σ : sS), Rx E d 290 265 [some (.null), l1, l2, l3, l4, l5, l6, l7, l8, l9] st σ = Rx E d 290 266 [some (.null), l1, l2, l3, l4, l5, l6, l7, l8, l9] (.null :: st) σ) := ⟨fun _ _ _ _ _ _ _ _ _ _ _ _ _ _ => Rx_tsw gMT_290 d290_45 rfl (by decide) rfl (by decide) rfl,
  fun _ _ _ _ _ _ _ _ _ _ _ _ _ _ => Rx_tsw gMT_290 d290_45 rfl (by decide) rfl (by decide) rfl,
  fun _ _ _ _ _ _ _ _ _ _ _ _ _ _ => Rx_tsw gMT_290 d290_45 rfl (by decide) rfl (by decide) rfl,
  fun _ _ _ _ _ _ _ _ _ _ _ _ _ _ => Rx_tsw gMT_290 d290_45 rfl (by decide) rfl (by decide) rfl,
  fun _ _ _ _ _ _ _ _ _ _ _ _ _ _ => Rx_tsw gMT_290 d290_45 rfl (by decide) rfl (by decide) rfl,
  fun _ _ _ _ _ _ _ _ _ _ _ _ _ _ => Rx_tsw gMT_290 d290_45 rfl (by decide) rfl (by decide) rfl,
  fun _ _ _ _ _ _ _ _ _ _ _ _ _ _ => Rx_tsw gMT_290 d290_45 rfl (by decide) rfl (by decide) rfl,
  fun _ _ _ _ _ _ _ _ _ _ _ _ _ _ => Rx_tsw gMT_290 d290_45 rfl (by decide) rfl (by decide) rfl,
  fun _ _ _ _ _ _ _ _ _ _ _ _ _ _ => Rx_tsw gMT_290 d290_45 rfl (by decide) rfl (by decide) rfl,
  fun _ _ _ _ _ _ _ _ _ _ _ _ _ _ => Rx_tsw gMT_290 d290_45 rfl (by decide) rfl (by decide) rfl,
  fun _ _ _ _ _ _ _ _ _ _ _ _ _ _ => Rx_tsw gMT_290 d290_45 rfl (by decide) rfl (by decide) rfl,
  fun _ _ _ _ _ _ _ _ _ _ _ _ _ _ => Rx_tsw gMT_290 d290_45 rfl (by decide) rfl (by decide) rfl,
  fun _ _ _ _ _ _ _ _ _ _ _ _ _ _ => Rx_tsw gMT_290 d290_45 rfl (by decide) rfl (by decide) rfl,
  fun _ _ _ _ _ _ _ _ _ _ _ _ _ _ => Rx_tsw gMT_290 d290_45 rfl (by decide) rfl (by decide) rfl,
  fun _ _ _ _ _ _ _ _ _ _ _ _ _ _ => Rx_tsw gMT_290 d290_45 rfl (by decide) rfl (by decide) rfl,
  fun _ _ _ _ _ _ _ _ _ _ _ _ _ _ => Rx_tsw gMT_290 d290_45 rfl (by decide) rfl (by decide) rfl,
  fun _ _ _ _ _ _ _ _ _ _ _ _ _ _ => Rx_tsw gMT_290 d290_45 rfl (by decide) rfl (by decide) rfl,
  fun _ _ _ _ _ _ _ _ _ _ _ _ _ _ => Rx_tsw gMT_290 d290_45 rfl (by decide) rfl (by decide) rfl,
  fun _ _ _ _ _ _ _ _ _ _ _ _ _ _ => Rx_tsw gMT_290 d290_45 rfl (by decide) rfl (by decide) rfl,
  fun _ _ _ _ _ _ _ _ _ _ _ _ _ _ => Rx_tsw gMT_290 d290_45 rfl (by decide) rfl (by decide) rfl,
  fun _ _ _ _ _ _ _ _ _ _ _ _ _ _ => Rx_tsw gMT_290 d290_45 rfl (by decide) rfl (by decide) rfl,
  fun _ _ _ _ _ _ _ _ _ _ _ _ _ _ => Rx_tsw gMT_290 d290_45 rfl (by decide) rfl (by decide) rfl,
  fun _ _ _ _ _ _ _ _ _ _ _ _ _ _ => Rx_tsw gMT_290 d290_45 rfl (by decide) rfl (by decide) rfl,
  fun _ _ _ _ _ _ _ _ _ _ _ _ _ _ => Rx_tsw gMT_290 d290_45 rfl (by decide) rfl (by decide) rfl,
  fun _ _ _ _ _ _ _ _ _ _ _ _ _ _ => Rx_tsw gMT_290 d290_45 rfl (by decide) rfl (by decide) rfl,
  fun _ _ _ _ _ _ _ _ _ _ _ _ _ _ _ h => Rx_tswD gMT_290 d290_45 rfl h (by decide) rfl,
  fun _ _ _ _ _ _ _ _ _ _ _ _ _ _ => Rx_of gMT_290 d290_264 rfl,
  fun _ _ _ _ _ _ _ _ _ _ _ _ _ => Rx_of gMT_290 d290_264 rfl,
  fun _ _ _ _ _ _ _ _ _ _ _ _ _ _ => Rx_of gMT_290 d290_265 rfl,
  fun _ _ _ _ _ _ _ _ _ _ _ _ _ => Rx_of gMT_290 d290_265 rfl⟩
theorem QLaw_law_3 : (∀ (E : sV) (d : Nat) (l0 : Option Value) (l1 : Option Value) (l2 : Option Value) (l3 : Option Value) (l4 : Option Value) (l6 : Option Value) (l7 : Option Value) (l8 : Option Value) (l9 : Option Value) (x : Int32) (st : List Value) (σ : sS), Rx E d 290 266 [l0, l1, l2, l3, l4, some (.int x), l6, l7, l8, l9] st σ = Rx E d 290 268 [l0, l1, l2, l3, l4, some (.int x), l6, l7, l8, l9] (.int x :: st) σ) ∧
  (∀ (E : sV) (d : Nat) (l0 l1 l2 l3 l4 l5 l6 l7 l8 l9 : Option Value) (st : List Value) (σ : sS), Rx E d 290 268 [l0, l1, l2, l3, l4, l5, l6, l7, l8, l9] st σ = Rx E d 290 269 [l0, l1, l2, l3, l4, l5, l6, l7, l8, l9] (.int (1) :: st) σ) ∧
  (∀ (E : sV) (d : Nat) (l0 l1 l2 l3 l4 l5 l6 l7 l8 l9 : Option Value) (x y : Int32) (st : List Value) (σ : sS), Rx E d 290 269 [l0, l1, l2, l3, l4, l5, l6, l7, l8, l9] (.int y :: .int x :: st) σ = Rx E d 290 270 [l0, l1, l2, l3, l4, l5, l6, l7, l8, l9] (.int (x + y) :: st) σ) ∧
  (∀ (E : sV) (d : Nat) (l0 l1 l2 l3 l4 l5 l6 l7 l8 l9 : Option Value) (i : Int32) (a : Nat) (st : List Value) (σ : sS), Rx E d 290 270 [l0, l1, l2, l3, l4, l5, l6, l7, l8, l9] (.int i :: .ref a :: st) σ = (aldI .int σ.1 a i).bind (fun v => Rx E d 290 271 [l0, l1, l2, l3, l4, l5, l6, l7, l8, l9] (v :: st) σ)) ∧
  (∀ (E : sV) (d : Nat) (l1 : Option Value) (l2 : Option Value) (l3 : Option Value) (l4 : Option Value) (l5 : Option Value) (l6 : Option Value) (l7 : Option Value) (l8 : Option Value) (l9 : Option Value) (x : Nat) (st : List Value) (σ : sS), Rx E d 290 271 [some (.ref x), l1, l2, l3, l4, l5, l6, l7, l8, l9] st σ = Rx E d 290 272 [some (.ref x), l1, l2, l3, l4, l5, l6, l7, l8, l9] (.ref x :: st) σ) ∧
  (∀ (E : sV) (d : Nat) (l1 : Option Value) (l2 : Option Value) (l3 : Option Value) (l4 : Option Value) (l5 : Option Value) (l6 : Option Value) (l7 : Option Value) (l8 : Option Value) (l9 : Option Value) (st : List Value) (σ : sS), Rx E d 290 271 [some (.null), l1, l2, l3, l4, l5, l6, l7, l8, l9] st σ = Rx E d 290 272 [some (.null), l1, l2, l3, l4, l5, l6, l7, l8, l9] (.null :: st) σ) ∧
  (∀ (E : sV) (d : Nat) (l0 : Option Value) (l1 : Option Value) (l2 : Option Value) (l3 : Option Value) (l4 : Option Value) (l6 : Option Value) (l7 : Option Value) (l8 : Option Value) (l9 : Option Value) (x : Int32) (st : List Value) (σ : sS), Rx E d 290 272 [l0, l1, l2, l3, l4, some (.int x), l6, l7, l8, l9] st σ = Rx E d 290 274 [l0, l1, l2, l3, l4, some (.int x), l6, l7, l8, l9] (.int x :: st) σ) ∧
  (∀ (E : sV) (d : Nat) (l0 l1 l2 l3 l4 l5 l6 l7 l8 l9 : Option Value) (st : List Value) (σ : sS), Rx E d 290 274 [l0, l1, l2, l3, l4, l5, l6, l7, l8, l9] st σ = Rx E d 290 275 [l0, l1, l2, l3, l4, l5, l6, l7, l8, l9] (.int (2) :: st) σ) ∧
  (∀ (E : sV) (d : Nat) (l0 l1 l2 l3 l4 l5 l6 l7 l8 l9 : Option Value) (x y : Int32) (st : List Value) (σ : sS), Rx E d 290 275 [l0, l1, l2, l3, l4, l5, l6, l7, l8, l9] (.int y :: .int x :: st) σ = Rx E d 290 276 [l0, l1, l2, l3, l4, l5, l6, l7, l8, l9] (.int (x + y) :: st) σ) ∧
  (∀ (E : sV) (d : Nat) (l0 l1 l2 l3 l4 l5 l6 l7 l8 l9 : Option Value) (i : Int32) (a : Nat) (st : List Value) (σ : sS), Rx E d 290 276 [l0, l1, l2, l3, l4, l5, l6, l7, l8, l9] (.int i :: .ref a :: st) σ = (aldI .int σ.1 a i).bind (fun v => Rx E d 290 277 [l0, l1, l2, l3, l4, l5, l6, l7, l8, l9] (v :: st) σ)) ∧
  (∀ (E : sV) (d : Nat) (l1 : Option Value) (l2 : Option Value) (l3 : Option Value) (l4 : Option Value) (l5 : Option Value) (l6 : Option Value) (l7 : Option Value) (l8 : Option Value) (l9 : Option Value) (x : Nat) (st : List Value) (σ : sS), Rx E d 290 277 [some (.ref x), l1, l2, l3, l4, l5, l6, l7, l8, l9] st σ = Rx E d 290 278 [some (.ref x), l1, l2, l3, l4, l5, l6, l7, l8, l9] (.ref x :: st) σ) ∧
  (∀ (E : sV) (d : Nat) (l1 : Option Value) (l2 : Option Value) (l3 : Option Value) (l4 : Option Value) (l5 : Option Value) (l6 : Option Value) (l7 : Option Value) (l8 : Option Value) (l9 : Option Value) (st : List Value) (σ : sS), Rx E d 290 277 [some (.null), l1, l2, l3, l4, l5, l6, l7, l8, l9] st σ = Rx E d 290 278 [some (.null), l1, l2, l3, l4, l5, l6, l7, l8, l9] (.null :: st) σ) ∧
  (∀ (E : sV) (d : Nat) (l0 : Option Value) (l1 : Option Value) (l2 : Option Value) (l3 : Option Value) (l4 : Option Value) (l6 : Option Value) (l7 : Option Value) (l8 : Option Value) (l9 : Option Value) (x : Int32) (st : List Value) (σ : sS), Rx E d 290 278 [l0, l1, l2, l3, l4, some (.int x), l6, l7, l8, l9] st σ = Rx E d 290 280 [l0, l1, l2, l3, l4, some (.int x), l6, l7, l8, l9] (.int x :: st) σ) ∧
  (∀ (E : sV) (d : Nat) (l0 l1 l2 l3 l4 l5 l6 l7 l8 l9 : Option Value) (st : List Value) (σ : sS), Rx E d 290 280 [l0, l1, l2, l3, l4, l5, l6, l7, l8, l9] st σ = Rx E d 290 281 [l0, l1, l2, l3, l4, l5, l6, l7, l8, l9] (.int (3) :: st) σ) ∧
  (∀ (E : sV) (d : Nat) (l0 l1 l2 l3 l4 l5 l6 l7 l8 l9 : Option Value) (x y : Int32) (st : List Value) (σ : sS), Rx E d 290 281 [l0, l1, l2, l3, l4, l5, l6, l7, l8, l9] (.int y :: .int x :: st) σ = Rx E d 290 282 [l0, l1, l2, l3, l4, l5, l6, l7, l8, l9] (.int (x + y) :: st) σ) ∧
  (∀ (E : sV) (d : Nat) (l0 l1 l2 l3 l4 l5 l6 l7 l8 l9 : Option Value) (i : Int32) (a : Nat) (st : List Value) (σ : sS), Rx E d 290 282 [l0, l1, l2, l3, l4, l5, l6, l7, l8, l9] (.int i :: .ref a :: st) σ = (aldI .int σ.1 a i).bind (fun v => Rx E d 290 283 [l0, l1, l2, l3, l4, l5, l6, l7, l8, l9] (v :: st) σ)) ∧
  (∀ (E : sV) (d : Nat) (l0 l1 l2 l3 l4 l5 l6 l7 l8 l9 : Option Value) (x : Int32) (st : List Value) (σ : sS), Rx E d 290 283 [l0, l1, l2, l3, l4, l5, l6, l7, l8, l9] (.int x :: st) σ = Rx E d 290 284 [l0, l1, l2, l3, l4, l5, l6, l7, l8, l9] (.int (x.toUInt32 % 65536).toInt32 :: st) σ) ∧
  (∀ (E : sV) (d : Nat) (l1 : Option Value) (l2 : Option Value) (l3 : Option Value) (l4 : Option Value) (l5 : Option Value) (l6 : Option Value) (l7 : Option Value) (l8 : Option Value) (l9 : Option Value) (x : Nat) (st : List Value) (σ : sS), Rx E d 290 284 [some (.ref x), l1, l2, l3, l4, l5, l6, l7, l8, l9] st σ = Rx E d 290 285 [some (.ref x), l1, l2, l3, l4, l5, l6, l7, l8, l9] (.ref x :: st) σ) ∧
  (∀ (E : sV) (d : Nat) (l1 : Option Value) (l2 : Option Value) (l3 : Option Value) (l4 : Option Value) (l5 : Option Value) (l6 : Option Value) (l7 : Option Value) (l8 : Option Value) (l9 : Option Value) (st : List Value) (σ : sS), Rx E d 290 284 [some (.null), l1, l2, l3, l4, l5, l6, l7, l8, l9] st σ = Rx E d 290 285 [some (.null), l1, l2, l3, l4, l5, l6, l7, l8, l9] (.null :: st) σ) ∧
  (∀ (E : sV) (d : Nat) (l0 : Option Value) (l1 : Option Value) (l2 : Option Value) (l3 : Option Value) (l4 : Option Value) (l6 : Option Value) (l7 : Option Value) (l8 : Option Value) (l9 : Option Value) (x : Int32) (st : List Value) (σ : sS), Rx E d 290 285 [l0, l1, l2, l3, l4, some (.int x), l6, l7, l8, l9] st σ = Rx E d 290 287 [l0, l1, l2, l3, l4, some (.int x), l6, l7, l8, l9] (.int x :: st) σ) ∧
  (∀ (E : sV) (d : Nat) (l0 l1 l2 l3 l4 l5 l6 l7 l8 l9 : Option Value) (st : List Value) (σ : sS), Rx E d 290 287 [l0, l1, l2, l3, l4, l5, l6, l7, l8, l9] st σ = Rx E d 290 288 [l0, l1, l2, l3, l4, l5, l6, l7, l8, l9] (.int (4) :: st) σ) ∧
  (∀ (E : sV) (d : Nat) (l0 l1 l2 l3 l4 l5 l6 l7 l8 l9 : Option Value) (x y : Int32) (st : List Value) (σ : sS), Rx E d 290 288 [l0, l1, l2, l3, l4, l5, l6, l7, l8, l9] (.int y :: .int x :: st) σ = Rx E d 290 289 [l0, l1, l2, l3, l4, l5, l6, l7, l8, l9] (.int (x + y) :: st) σ) ∧
  (∀ (E : sV) (d : Nat) (l0 l1 l2 l3 l4 l5 l6 l7 l8 l9 : Option Value) (i : Int32) (a : Nat) (st : List Value) (σ : sS), Rx E d 290 289 [l0, l1, l2, l3, l4, l5, l6, l7, l8, l9] (.int i :: .ref a :: st) σ = (aldI .int σ.1 a i).bind (fun v => Rx E d 290 290 [l0, l1, l2, l3, l4, l5, l6, l7, l8, l9] (v :: st) σ)) ∧
  (∀ (E : sV) (d : Nat) (l1 : Option Value) (l2 : Option Value) (l3 : Option Value) (l4 : Option Value) (l5 : Option Value) (l6 : Option Value) (l7 : Option Value) (l8 : Option Value) (l9 : Option Value) (x : Nat) (st : List Value) (σ : sS), Rx E d 290 290 [some (.ref x), l1, l2, l3, l4, l5, l6, l7, l8, l9] st σ = Rx E d 290 291 [some (.ref x), l1, l2, l3, l4, l5, l6, l7, l8, l9] (.ref x :: st) σ) ∧
  (∀ (E : sV) (d : Nat) (l1 : Option Value) (l2 : Option Value) (l3 : Option Value) (l4 : Option Value) (l5 : Option Value) (l6 : Option Value) (l7 : Option Value) (l8 : Option Value) (l9 : Option Value) (st : List Value) (σ : sS), Rx E d 290 290 [some (.null), l1, l2, l3, l4, l5, l6, l7, l8, l9] st σ = Rx E d 290 291 [some (.null), l1, l2, l3, l4, l5, l6, l7, l8, l9] (.null :: st) σ) ∧
  (∀ (E : sV) (d : Nat) (l0 : Option Value) (l1 : Option Value) (l2 : Option Value) (l3 : Option Value) (l4 : Option Value) (l6 : Option Value) (l7 : Option Value) (l8 : Option Value) (l9 : Option Value) (x : Int32) (st : List Value) (σ : sS), Rx E d 290 291 [l0, l1, l2, l3, l4, some (.int x), l6, l7, l8, l9] st σ = Rx E d 290 293 [l0, l1, l2, l3, l4, some (.int x), l6, l7, l8, l9] (.int x :: st) σ) ∧
  (∀ (E : sV) (d : Nat) (l0 l1 l2 l3 l4 l5 l6 l7 l8 l9 : Option Value) (st : List Value) (σ : sS), Rx E d 290 293 [l0, l1, l2, l3, l4, l5, l6, l7, l8, l9] st σ = Rx E d 290 294 [l0, l1, l2, l3, l4, l5, l6, l7, l8, l9] (.int (5) :: st) σ) ∧
  (∀ (E : sV) (d : Nat) (l0 l1 l2 l3 l4 l5 l6 l7 l8 l9 : Option Value) (x y : Int32) (st : List Value) (σ : sS), Rx E d 290 294 [l0, l1, l2, l3, l4, l5, l6, l7, l8, l9] (.int y :: .int x :: st) σ = Rx E d 290 295 [l0, l1, l2, l3, l4, l5, l6, l7, l8, l9] (.int (x + y) :: st) σ) ∧
  (∀ (E : sV) (d : Nat) (l0 l1 l2 l3 l4 l5 l6 l7 l8 l9 : Option Value) (i : Int32) (a : Nat) (st : List Value) (σ : sS), Rx E d 290 295 [l0, l1, l2, l3, l4, l5, l6, l7, l8, l9] (.int i :: .ref a :: st) σ = (aldI .int σ.1 a i).bind (fun v => Rx E d 290 296 [l0, l1, l2, l3, l4, l5, l6, l7, l8, l9] (v :: st) σ)) ∧
  (∀ (E : sV) (d : Nat) (l1 : Option Value) (l2 : Option Value) (l3 : Option Value) (l4 : Option Value) (l5 : Option Value) (l6 : Option Value) (l7 : Option Value) (l8 : Option Value) (l9 : Option Value) (x : Nat) (st : List Value) (σ : sS), Rx E d 290 296 [some (.ref x), l1, l2, l3, l4, l5, l6, l7, l8, l9] st σ = Rx E d 290 297 [some (.ref x), l1, l2, l3, l4, l5, l6, l7, l8, l9] (.ref x :: st) σ) := ⟨fun _ _ _ _ _ _ _ _ _ _ _ _ _ _ => Rx_of gMT_290 d290_266 rfl,
  fun _ _ _ _ _ _ _ _ _ _ _ _ _ _ => Rx_of gMT_290 d290_268 rfl,
  fun _ _ _ _ _ _ _ _ _ _ _ _ _ _ _ _ => Rx_of gMT_290 d290_269 rfl,
  fun _ _ _ _ _ _ _ _ _ _ _ _ _ _ _ _ => Rx_ald gMT_290 d290_270 rfl rfl,
  fun _ _ _ _ _ _ _ _ _ _ _ _ _ _ => Rx_of gMT_290 d290_271 rfl,
  fun _ _ _ _ _ _ _ _ _ _ _ _ _ => Rx_of gMT_290 d290_271 rfl,
  fun _ _ _ _ _ _ _ _ _ _ _ _ _ _ => Rx_of gMT_290 d290_272 rfl,
  fun _ _ _ _ _ _ _ _ _ _ _ _ _ _ => Rx_of gMT_290 d290_274 rfl,
  fun _ _ _ _ _ _ _ _ _ _ _ _ _ _ _ _ => Rx_of gMT_290 d290_275 rfl,
  fun _ _ _ _ _ _ _ _ _ _ _ _ _ _ _ _ => Rx_ald gMT_290 d290_276 rfl rfl,
  fun _ _ _ _ _ _ _ _ _ _ _ _ _ _ => Rx_of gMT_290 d290_277 rfl,
  fun _ _ _ _ _ _ _ _ _ _ _ _ _ => Rx_of gMT_290 d290_277 rfl,
  fun _ _ _ _ _ _ _ _ _ _ _ _ _ _ => Rx_of gMT_290 d290_278 rfl,
  fun _ _ _ _ _ _ _ _ _ _ _ _ _ _ => Rx_of gMT_290 d290_280 rfl,
  fun _ _ _ _ _ _ _ _ _ _ _ _ _ _ _ _ => Rx_of gMT_290 d290_281 rfl,
  fun _ _ _ _ _ _ _ _ _ _ _ _ _ _ _ _ => Rx_ald gMT_290 d290_282 rfl rfl,
  fun _ _ _ _ _ _ _ _ _ _ _ _ _ _ _ => Rx_of gMT_290 d290_283 rfl,
  fun _ _ _ _ _ _ _ _ _ _ _ _ _ _ => Rx_of gMT_290 d290_284 rfl,
  fun _ _ _ _ _ _ _ _ _ _ _ _ _ => Rx_of gMT_290 d290_284 rfl,
  fun _ _ _ _ _ _ _ _ _ _ _ _ _ _ => Rx_of gMT_290 d290_285 rfl,
  fun _ _ _ _ _ _ _ _ _ _ _ _ _ _ => Rx_of gMT_290 d290_287 rfl,
  fun _ _ _ _ _ _ _ _ _ _ _ _ _ _ _ _ => Rx_of gMT_290 d290_288 rfl,
  fun _ _ _ _ _ _ _ _ _ _ _ _ _ _ _ _ => Rx_ald gMT_290 d290_289 rfl rfl,
  fun _ _ _ _ _ _ _ _ _ _ _ _ _ _ => Rx_of gMT_290 d290_290 rfl,
  fun _ _ _ _ _ _ _ _ _ _ _ _ _ => Rx_of gMT_290 d290_290 rfl,
  fun _ _ _ _ _ _ _ _ _ _ _ _ _ _ => Rx_of gMT_290 d290_291 rfl,
  fun _ _ _ _ _ _ _ _ _ _ _ _ _ _ => Rx_of gMT_290 d290_293 rfl,
  fun _ _ _ _ _ _ _ _ _ _ _ _ _ _ _ _ => Rx_of gMT_290 d290_294 rfl,
  fun _ _ _ _ _ _ _ _ _ _ _ _ _ _ _ _ => Rx_ald gMT_290 d290_295 rfl rfl,
  fun _ _ _ _ _ _ _ _ _ _ _ _ _ _ => Rx_of gMT_290 d290_296 rfl⟩
theorem QLaw_law_4 : (∀ (E : sV) (d : Nat) (l1 : Option Value) (l2 : Option Value) (l3 : Option Value) (l4 : Option Value) (l5 : Option Value) (l6 : Option Value) (l7 : Option Value) (l8 : Option Value) (l9 : Option Value) (st : List Value) (σ : sS), Rx E d 290 296 [some (.null), l1, l2, l3, l4, l5, l6, l7, l8, l9] st σ = Rx E d 290 297 [some (.null), l1, l2, l3, l4, l5, l6, l7, l8, l9] (.null :: st) σ) ∧
  (∀ (E : sV) (d : Nat) (l0 : Option Value) (l1 : Option Value) (l2 : Option Value) (l3 : Option Value) (l4 : Option Value) (l6 : Option Value) (l7 : Option Value) (l8 : Option Value) (l9 : Option Value) (x : Int32) (st : List Value) (σ : sS), Rx E d 290 297 [l0, l1, l2, l3, l4, some (.int x), l6, l7, l8, l9] st σ = Rx E d 290 299 [l0, l1, l2, l3, l4, some (.int x), l6, l7, l8, l9] (.int x :: st) σ) ∧
  (∀ (E : sV) (d : Nat) (l0 l1 l2 l3 l4 l5 l6 l7 l8 l9 : Option Value) (st : List Value) (σ : sS), Rx E d 290 299 [l0, l1, l2, l3, l4, l5, l6, l7, l8, l9] st σ = Rx E d 290 301 [l0, l1, l2, l3, l4, l5, l6, l7, l8, l9] (.int (6) :: st) σ) ∧
  (∀ (E : sV) (d : Nat) (l0 l1 l2 l3 l4 l5 l6 l7 l8 l9 : Option Value) (x y : Int32) (st : List Value) (σ : sS), Rx E d 290 301 [l0, l1, l2, l3, l4, l5, l6, l7, l8, l9] (.int y :: .int x :: st) σ = Rx E d 290 302 [l0, l1, l2, l3, l4, l5, l6, l7, l8, l9] (.int (x + y) :: st) σ) ∧
  (∀ (E : sV) (d : Nat) (l0 l1 l2 l3 l4 l5 l6 l7 l8 l9 : Option Value) (i : Int32) (a : Nat) (st : List Value) (σ : sS), Rx E d 290 302 [l0, l1, l2, l3, l4, l5, l6, l7, l8, l9] (.int i :: .ref a :: st) σ = (aldI .int σ.1 a i).bind (fun v => Rx E d 290 303 [l0, l1, l2, l3, l4, l5, l6, l7, l8, l9] (v :: st) σ)) ∧
  (∀ (E : sV) (d : Nat) (l0 : Option Value) (l1 : Option Value) (l2 : Option Value) (l4 : Option Value) (l5 : Option Value) (l6 : Option Value) (l7 : Option Value) (l8 : Option Value) (l9 : Option Value) (x : Nat) (st : List Value) (σ : sS), Rx E d 290 303 [l0, l1, l2, some (.ref x), l4, l5, l6, l7, l8, l9] st σ = Rx E d 290 304 [l0, l1, l2, some (.ref x), l4, l5, l6, l7, l8, l9] (.ref x :: st) σ) ∧
  (∀ (E : sV) (d : Nat) (l0 : Option Value) (l1 : Option Value) (l2 : Option Value) (l4 : Option Value) (l5 : Option Value) (l6 : Option Value) (l7 : Option Value) (l8 : Option Value) (l9 : Option Value) (st : List Value) (σ : sS), Rx E d 290 303 [l0, l1, l2, some (.null), l4, l5, l6, l7, l8, l9] st σ = Rx E d 290 304 [l0, l1, l2, some (.null), l4, l5, l6, l7, l8, l9] (.null :: st) σ) ∧
  (∀ (E : sV) (d : Nat) (l0 l1 l2 l3 l4 l5 l6 l7 l8 l9 : Option Value) (v1 v2 v3 v4 v5 v6 v7 v8 : Value) (st : List Value) (σ : sS), Rx E d 290 304 [l0, l1, l2, l3, l4, l5, l6, l7, l8, l9] (v8 :: v7 :: v6 :: v5 :: v4 :: v3 :: v2 :: v1 :: st) σ = if cats st ≤ 8 then callK (Mt E d 247 [v1, v2, v3, v4, v5, v6, v7, v8] σ) (fun v σ => Rx E d 290 307 [l0, l1, l2, l3, l4, l5, l6, l7, l8, l9] (v.toList ++ st) σ) else none) ∧
  (∀ (E : sV) (d : Nat) (l0 l1 l2 l3 l4 l5 l6 l7 l8 l9 : Option Value) (x : Int32) (st : List Value) (σ : sS), Rx E d 290 307 [l0, l1, l2, l3, l4, l5, l6, l7, l8, l9] (.int x :: st) σ = Rx E d 290 309 [l0, l1, l2, l3, l4, ldrop l5, some (.int x), l7, l8, l9] st σ) ∧
  (∀ (E : sV) (d : Nat) (l0 : Option Value) (l1 : Option Value) (l3 : Option Value) (l4 : Option Value) (l5 : Option Value) (l6 : Option Value) (l7 : Option Value) (l8 : Option Value) (l9 : Option Value) (x : Nat) (st : List Value) (σ : sS), Rx E d 290 309 [l0, l1, some (.ref x), l3, l4, l5, l6, l7, l8, l9] st σ = Rx E d 290 310 [l0, l1, some (.ref x), l3, l4, l5, l6, l7, l8, l9] (.ref x :: st) σ) ∧
  (∀ (E : sV) (d : Nat) (l0 : Option Value) (l1 : Option Value) (l3 : Option Value) (l4 : Option Value) (l5 : Option Value) (l6 : Option Value) (l7 : Option Value) (l8 : Option Value) (l9 : Option Value) (st : List Value) (σ : sS), Rx E d 290 309 [l0, l1, some (.null), l3, l4, l5, l6, l7, l8, l9] st σ = Rx E d 290 310 [l0, l1, some (.null), l3, l4, l5, l6, l7, l8, l9] (.null :: st) σ) ∧
  (∀ (E : sV) (d : Nat) (l1 : Option Value) (l2 : Option Value) (l3 : Option Value) (l4 : Option Value) (l5 : Option Value) (l6 : Option Value) (l7 : Option Value) (l8 : Option Value) (l9 : Option Value) (x : Nat) (st : List Value) (σ : sS), Rx E d 290 310 [some (.ref x), l1, l2, l3, l4, l5, l6, l7, l8, l9] st σ = Rx E d 290 311 [some (.ref x), l1, l2, l3, l4, l5, l6, l7, l8, l9] (.ref x :: st) σ) ∧
  (∀ (E : sV) (d : Nat) (l1 : Option Value) (l2 : Option Value) (l3 : Option Value) (l4 : Option Value) (l5 : Option Value) (l6 : Option Value) (l7 : Option Value) (l8 : Option Value) (l9 : Option Value) (st : List Value) (σ : sS), Rx E d 290 310 [some (.null), l1, l2, l3, l4, l5, l6, l7, l8, l9] st σ = Rx E d 290 311 [some (.null), l1, l2, l3, l4, l5, l6, l7, l8, l9] (.null :: st) σ) ∧
  (∀ (E : sV) (d : Nat) (l0 : Option Value) (l1 : Option Value) (l2 : Option Value) (l3 : Option Value) (l4 : Option Value) (l6 : Option Value) (l7 : Option Value) (l8 : Option Value) (l9 : Option Value) (x : Int32) (st : List Value) (σ : sS), Rx E d 290 311 [l0, l1, l2, l3, l4, some (.int x), l6, l7, l8, l9] st σ = Rx E d 290 313 [l0, l1, l2, l3, l4, some (.int x), l6, l7, l8, l9] (.int x :: st) σ) ∧
  (∀ (E : sV) (d : Nat) (l0 l1 l2 l3 l4 l5 l6 l7 l8 l9 : Option Value) (st : List Value) (σ : sS), Rx E d 290 313 [l0, l1, l2, l3, l4, l5, l6, l7, l8, l9] st σ = Rx E d 290 314 [l0, l1, l2, l3, l4, l5, l6, l7, l8, l9] (.int (1) :: st) σ) ∧
  (∀ (E : sV) (d : Nat) (l0 l1 l2 l3 l4 l5 l6 l7 l8 l9 : Option Value) (x y : Int32) (st : List Value) (σ : sS), Rx E d 290 314 [l0, l1, l2, l3, l4, l5, l6, l7, l8, l9] (.int y :: .int x :: st) σ = Rx E d 290 315 [l0, l1, l2, l3, l4, l5, l6, l7, l8, l9] (.int (x + y) :: st) σ) ∧
  (∀ (E : sV) (d : Nat) (l0 l1 l2 l3 l4 l5 l6 l7 l8 l9 : Option Value) (i : Int32) (a : Nat) (st : List Value) (σ : sS), Rx E d 290 315 [l0, l1, l2, l3, l4, l5, l6, l7, l8, l9] (.int i :: .ref a :: st) σ = (aldI .int σ.1 a i).bind (fun v => Rx E d 290 316 [l0, l1, l2, l3, l4, l5, l6, l7, l8, l9] (v :: st) σ)) ∧
  (∀ (E : sV) (d : Nat) (l1 : Option Value) (l2 : Option Value) (l3 : Option Value) (l4 : Option Value) (l5 : Option Value) (l6 : Option Value) (l7 : Option Value) (l8 : Option Value) (l9 : Option Value) (x : Nat) (st : List Value) (σ : sS), Rx E d 290 316 [some (.ref x), l1, l2, l3, l4, l5, l6, l7, l8, l9] st σ = Rx E d 290 317 [some (.ref x), l1, l2, l3, l4, l5, l6, l7, l8, l9] (.ref x :: st) σ) ∧
  (∀ (E : sV) (d : Nat) (l1 : Option Value) (l2 : Option Value) (l3 : Option Value) (l4 : Option Value) (l5 : Option Value) (l6 : Option Value) (l7 : Option Value) (l8 : Option Value) (l9 : Option Value) (st : List Value) (σ : sS), Rx E d 290 316 [some (.null), l1, l2, l3, l4, l5, l6, l7, l8, l9] st σ = Rx E d 290 317 [some (.null), l1, l2, l3, l4, l5, l6, l7, l8, l9] (.null :: st) σ) ∧
  (∀ (E : sV) (d : Nat) (l0 : Option Value) (l1 : Option Value) (l2 : Option Value) (l3 : Option Value) (l4 : Option Value) (l6 : Option Value) (l7 : Option Value) (l8 : Option Value) (l9 : Option Value) (x : Int32) (st : List Value) (σ : sS), Rx E d 290 317 [l0, l1, l2, l3, l4, some (.int x), l6, l7, l8, l9] st σ = Rx E d 290 319 [l0, l1, l2, l3, l4, some (.int x), l6, l7, l8, l9] (.int x :: st) σ) ∧
  (∀ (E : sV) (d : Nat) (l0 l1 l2 l3 l4 l5 l6 l7 l8 l9 : Option Value) (st : List Value) (σ : sS), Rx E d 290 319 [l0, l1, l2, l3, l4, l5, l6, l7, l8, l9] st σ = Rx E d 290 320 [l0, l1, l2, l3, l4, l5, l6, l7, l8, l9] (.int (2) :: st) σ) ∧
  (∀ (E : sV) (d : Nat) (l0 l1 l2 l3 l4 l5 l6 l7 l8 l9 : Option Value) (x y : Int32) (st : List Value) (σ : sS), Rx E d 290 320 [l0, l1, l2, l3, l4, l5, l6, l7, l8, l9] (.int y :: .int x :: st) σ = Rx E d 290 321 [l0, l1, l2, l3, l4, l5, l6, l7, l8, l9] (.int (x + y) :: st) σ) ∧
  (∀ (E : sV) (d : Nat) (l0 l1 l2 l3 l4 l5 l6 l7 l8 l9 : Option Value) (i : Int32) (a : Nat) (st : List Value) (σ : sS), Rx E d 290 321 [l0, l1, l2, l3, l4, l5, l6, l7, l8, l9] (.int i :: .ref a :: st) σ = (aldI .int σ.1 a i).bind (fun v => Rx E d 290 322 [l0, l1, l2, l3, l4, l5, l6, l7, l8, l9] (v :: st) σ)) ∧
  (∀ (E : sV) (d : Nat) (l1 : Option Value) (l2 : Option Value) (l3 : Option Value) (l4 : Option Value) (l5 : Option Value) (l6 : Option Value) (l7 : Option Value) (l8 : Option Value) (l9 : Option Value) (x : Nat) (st : List Value) (σ : sS), Rx E d 290 322 [some (.ref x), l1, l2, l3, l4, l5, l6, l7, l8, l9] st σ = Rx E d 290 323 [some (.ref x), l1, l2, l3, l4, l5, l6, l7, l8, l9] (.ref x :: st) σ) ∧
  (∀ (E : sV) (d : Nat) (l1 : Option Value) (l2 : Option Value) (l3 : Option Value) (l4 : Option Value) (l5 : Option Value) (l6 : Option Value) (l7 : Option Value) (l8 : Option Value) (l9 : Option Value) (st : List Value) (σ : sS), Rx E d 290 322 [some (.null), l1, l2, l3, l4, l5, l6, l7, l8, l9] st σ = Rx E d 290 323 [some (.null), l1, l2, l3, l4, l5, l6, l7, l8, l9] (.null :: st) σ) ∧
  (∀ (E : sV) (d : Nat) (l0 : Option Value) (l1 : Option Value) (l2 : Option Value) (l3 : Option Value) (l4 : Option Value) (l6 : Option Value) (l7 : Option Value) (l8 : Option Value) (l9 : Option Value) (x : Int32) (st : List Value) (σ : sS), Rx E d 290 323 [l0, l1, l2, l3, l4, some (.int x), l6, l7, l8, l9] st σ = Rx E d 290 325 [l0, l1, l2, l3, l4, some (.int x), l6, l7, l8, l9] (.int x :: st) σ) ∧
  (∀ (E : sV) (d : Nat) (l0 l1 l2 l3 l4 l5 l6 l7 l8 l9 : Option Value) (st : List Value) (σ : sS), Rx E d 290 325 [l0, l1, l2, l3, l4, l5, l6, l7, l8, l9] st σ = Rx E d 290 326 [l0, l1, l2, l3, l4, l5, l6, l7, l8, l9] (.int (3) :: st) σ) ∧
  (∀ (E : sV) (d : Nat) (l0 l1 l2 l3 l4 l5 l6 l7 l8 l9 : Option Value) (x y : Int32) (st : List Value) (σ : sS), Rx E d 290 326 [l0, l1, l2, l3, l4, l5, l6, l7, l8, l9] (.int y :: .int x :: st) σ = Rx E d 290 327 [l0, l1, l2, l3, l4, l5, l6, l7, l8, l9] (.int (x + y) :: st) σ) ∧
  (∀ (E : sV) (d : Nat) (l0 l1 l2 l3 l4 l5 l6 l7 l8 l9 : Option Value) (i : Int32) (a : Nat) (st : List Value) (σ : sS), Rx E d 290 327 [l0, l1, l2, l3, l4, l5, l6, l7, l8, l9] (.int i :: .ref a :: st) σ = (aldI .int σ.1 a i).bind (fun v => Rx E d 290 328 [l0, l1, l2, l3, l4, l5, l6, l7, l8, l9] (v :: st) σ)) ∧
  (∀ (E : sV) (d : Nat) (l0 l1 l2 l3 l4 l5 l6 l7 l8 l9 : Option Value) (x : Int32) (st : List Value) (σ : sS), Rx E d 290 328 [l0, l1, l2, l3, l4, l5, l6, l7, l8, l9] (.int x :: st) σ = Rx E d 290 329 [l0, l1, l2, l3, l4, l5, l6, l7, l8, l9] (.int (x.toUInt32 % 65536).toInt32 :: st) σ) := ⟨fun _ _ _ _ _ _ _ _ _ _ _ _ _ => Rx_of gMT_290 d290_296 rfl,
  fun _ _ _ _ _ _ _ _ _ _ _ _ _ _ => Rx_of gMT_290 d290_297 rfl,
  fun _ _ _ _ _ _ _ _ _ _ _ _ _ _ => Rx_of gMT_290 d290_299 rfl,
  fun _ _ _ _ _ _ _ _ _ _ _ _ _ _ _ _ => Rx_of gMT_290 d290_301 rfl,
  fun _ _ _ _ _ _ _ _ _ _ _ _ _ _ _ _ => Rx_ald gMT_290 d290_302 rfl rfl,
  fun _ _ _ _ _ _ _ _ _ _ _ _ _ _ => Rx_of gMT_290 d290_303 rfl,
  fun _ _ _ _ _ _ _ _ _ _ _ _ _ => Rx_of gMT_290 d290_303 rfl,
  fun _ _ _ _ _ _ _ _ _ _ _ _ _ _ _ _ _ _ _ _ _ _ => Rx_callS gMT_290 d290_304 rfl rfl rfl rfl rfl,
  fun _ _ _ _ _ _ _ _ _ _ _ _ _ _ _ => Rx_of gMT_290 d290_307 rfl,
  fun _ _ _ _ _ _ _ _ _ _ _ _ _ _ => Rx_of gMT_290 d290_309 rfl,
  fun _ _ _ _ _ _ _ _ _ _ _ _ _ => Rx_of gMT_290 d290_309 rfl,
  fun _ _ _ _ _ _ _ _ _ _ _ _ _ _ => Rx_of gMT_290 d290_310 rfl,
  fun _ _ _ _ _ _ _ _ _ _ _ _ _ => Rx_of gMT_290 d290_310 rfl,
  fun _ _ _ _ _ _ _ _ _ _ _ _ _ _ => Rx_of gMT_290 d290_311 rfl,
  fun _ _ _ _ _ _ _ _ _ _ _ _ _ _ => Rx_of gMT_290 d290_313 rfl,
  fun _ _ _ _ _ _ _ _ _ _ _ _ _ _ _ _ => Rx_of gMT_290 d290_314 rfl,
  fun _ _ _ _ _ _ _ _ _ _ _ _ _ _ _ _ => Rx_ald gMT_290 d290_315 rfl rfl,
  fun _ _ _ _ _ _ _ _ _ _ _ _ _ _ => Rx_of gMT_290 d290_316 rfl,
  fun _ _ _ _ _ _ _ _ _ _ _ _ _ => Rx_of gMT_290 d290_316 rfl,
  fun _ _ _ _ _ _ _ _ _ _ _ _ _ _ => Rx_of gMT_290 d290_317 rfl,
  fun _ _ _ _ _ _ _ _ _ _ _ _ _ _ => Rx_of gMT_290 d290_319 rfl,
  fun _ _ _ _ _ _ _ _ _ _ _ _ _ _ _ _ => Rx_of gMT_290 d290_320 rfl,
  fun _ _ _ _ _ _ _ _ _ _ _ _ _ _ _ _ => Rx_ald gMT_290 d290_321 rfl rfl,
  fun _ _ _ _ _ _ _ _ _ _ _ _ _ _ => Rx_of gMT_290 d290_322 rfl,
  fun _ _ _ _ _ _ _ _ _ _ _ _ _ => Rx_of gMT_290 d290_322 rfl,
  fun _ _ _ _ _ _ _ _ _ _ _ _ _ _ => Rx_of gMT_290 d290_323 rfl,
  fun _ _ _ _ _ _ _ _ _ _ _ _ _ _ => Rx_of gMT_290 d290_325 rfl,
  fun _ _ _ _ _ _ _ _ _ _ _ _ _ _ _ _ => Rx_of gMT_290 d290_326 rfl,
  fun _ _ _ _ _ _ _ _ _ _ _ _ _ _ _ _ => Rx_ald gMT_290 d290_327 rfl rfl,
  fun _ _ _ _ _ _ _ _ _ _ _ _ _ _ _ => Rx_of gMT_290 d290_328 rfl⟩
theorem QLaw_law_5 : (∀ (E : sV) (d : Nat) (l1 : Option Value) (l2 : Option Value) (l3 : Option Value) (l4 : Option Value) (l5 : Option Value) (l6 : Option Value) (l7 : Option Value) (l8 : Option Value) (l9 : Option Value) (x : Nat) (st : List Value) (σ : sS), Rx E d 290 329 [some (.ref x), l1, l2, l3, l4, l5, l6, l7, l8, l9] st σ = Rx E d 290 330 [some (.ref x), l1, l2, l3, l4, l5, l6, l7, l8, l9] (.ref x :: st) σ) ∧
  (∀ (E : sV) (d : Nat) (l1 : Option Value) (l2 : Option Value) (l3 : Option Value) (l4 : Option Value) (l5 : Option Value) (l6 : Option Value) (l7 : Option Value) (l8 : Option Value) (l9 : Option Value) (st : List Value) (σ : sS), Rx E d 290 329 [some (.null), l1, l2, l3, l4, l5, l6, l7, l8, l9] st σ = Rx E d 290 330 [some (.null), l1, l2, l3, l4, l5, l6, l7, l8, l9] (.null :: st) σ) ∧
  (∀ (E : sV) (d : Nat) (l0 : Option Value) (l1 : Option Value) (l2 : Option Value) (l3 : Option Value) (l4 : Option Value) (l6 : Option Value) (l7 : Option Value) (l8 : Option Value) (l9 : Option Value) (x : Int32) (st : List Value) (σ : sS), Rx E d 290 330 [l0, l1, l2, l3, l4, some (.int x), l6, l7, l8, l9] st σ = Rx E d 290 332 [l0, l1, l2, l3, l4, some (.int x), l6, l7, l8, l9] (.int x :: st) σ) ∧
  (∀ (E : sV) (d : Nat) (l0 l1 l2 l3 l4 l5 l6 l7 l8 l9 : Option Value) (st : List Value) (σ : sS), Rx E d 290 332 [l0, l1, l2, l3, l4, l5, l6, l7, l8, l9] st σ = Rx E d 290 333 [l0, l1, l2, l3, l4, l5, l6, l7, l8, l9] (.int (4) :: st) σ) ∧
  (∀ (E : sV) (d : Nat) (l0 l1 l2 l3 l4 l5 l6 l7 l8 l9 : Option Value) (x y : Int32) (st : List Value) (σ : sS), Rx E d 290 333 [l0, l1, l2, l3, l4, l5, l6, l7, l8, l9] (.int y :: .int x :: st) σ = Rx E d 290 334 [l0, l1, l2, l3, l4, l5, l6, l7, l8, l9] (.int (x + y) :: st) σ) ∧
  (∀ (E : sV) (d : Nat) (l0 l1 l2 l3 l4 l5 l6 l7 l8 l9 : Option Value) (i : Int32) (a : Nat) (st : List Value) (σ : sS), Rx E d 290 334 [l0, l1, l2, l3, l4, l5, l6, l7, l8, l9] (.int i :: .ref a :: st) σ = (aldI .int σ.1 a i).bind (fun v => Rx E d 290 335 [l0, l1, l2, l3, l4, l5, l6, l7, l8, l9] (v :: st) σ)) ∧
  (∀ (E : sV) (d : Nat) (l1 : Option Value) (l2 : Option Value) (l3 : Option Value) (l4 : Option Value) (l5 : Option Value) (l6 : Option Value) (l7 : Option Value) (l8 : Option Value) (l9 : Option Value) (x : Nat) (st : List Value) (σ : sS), Rx E d 290 335 [some (.ref x), l1, l2, l3, l4, l5, l6, l7, l8, l9] st σ = Rx E d 290 336 [some (.ref x), l1, l2, l3, l4, l5, l6, l7, l8, l9] (.ref x :: st) σ) ∧
  (∀ (E : sV) (d : Nat) (l1 : Option Value) (l2 : Option Value) (l3 : Option Value) (l4 : Option Value) (l5 : Option Value) (l6 : Option Value) (l7 : Option Value) (l8 : Option Value) (l9 : Option Value) (st : List Value) (σ : sS), Rx E d 290 335 [some (.null), l1, l2, l3, l4, l5, l6, l7, l8, l9] st σ = Rx E d 290 336 [some (.null), l1, l2, l3, l4, l5, l6, l7, l8, l9] (.null :: st) σ) ∧
  (∀ (E : sV) (d : Nat) (l0 : Option Value) (l1 : Option Value) (l2 : Option Value) (l3 : Option Value) (l4 : Option Value) (l6 : Option Value) (l7 : Option Value) (l8 : Option Value) (l9 : Option Value) (x : Int32) (st : List Value) (σ : sS), Rx E d 290 336 [l0, l1, l2, l3, l4, some (.int x), l6, l7, l8, l9] st σ = Rx E d 290 338 [l0, l1, l2, l3, l4, some (.int x), l6, l7, l8, l9] (.int x :: st) σ) ∧
  (∀ (E : sV) (d : Nat) (l0 l1 l2 l3 l4 l5 l6 l7 l8 l9 : Option Value) (st : List Value) (σ : sS), Rx E d 290 338 [l0, l1, l2, l3, l4, l5, l6, l7, l8, l9] st σ = Rx E d 290 339 [l0, l1, l2, l3, l4, l5, l6, l7, l8, l9] (.int (5) :: st) σ) ∧
  (∀ (E : sV) (d : Nat) (l0 l1 l2 l3 l4 l5 l6 l7 l8 l9 : Option Value) (x y : Int32) (st : List Value) (σ : sS), Rx E d 290 339 [l0, l1, l2, l3, l4, l5, l6, l7, l8, l9] (.int y :: .int x :: st) σ = Rx E d 290 340 [l0, l1, l2, l3, l4, l5, l6, l7, l8, l9] (.int (x + y) :: st) σ) ∧
  (∀ (E : sV) (d : Nat) (l0 l1 l2 l3 l4 l5 l6 l7 l8 l9 : Option Value) (i : Int32) (a : Nat) (st : List Value) (σ : sS), Rx E d 290 340 [l0, l1, l2, l3, l4, l5, l6, l7, l8, l9] (.int i :: .ref a :: st) σ = (aldI .int σ.1 a i).bind (fun v => Rx E d 290 341 [l0, l1, l2, l3, l4, l5, l6, l7, l8, l9] (v :: st) σ)) ∧
  (∀ (E : sV) (d : Nat) (l1 : Option Value) (l2 : Option Value) (l3 : Option Value) (l4 : Option Value) (l5 : Option Value) (l6 : Option Value) (l7 : Option Value) (l8 : Option Value) (l9 : Option Value) (x : Nat) (st : List Value) (σ : sS), Rx E d 290 341 [some (.ref x), l1, l2, l3, l4, l5, l6, l7, l8, l9] st σ = Rx E d 290 342 [some (.ref x), l1, l2, l3, l4, l5, l6, l7, l8, l9] (.ref x :: st) σ) ∧
  (∀ (E : sV) (d : Nat) (l1 : Option Value) (l2 : Option Value) (l3 : Option Value) (l4 : Option Value) (l5 : Option Value) (l6 : Option Value) (l7 : Option Value) (l8 : Option Value) (l9 : Option Value) (st : List Value) (σ : sS), Rx E d 290 341 [some (.null), l1, l2, l3, l4, l5, l6, l7, l8, l9] st σ = Rx E d 290 342 [some (.null), l1, l2, l3, l4, l5, l6, l7, l8, l9] (.null :: st) σ) ∧
  (∀ (E : sV) (d : Nat) (l0 : Option Value) (l1 : Option Value) (l2 : Option Value) (l3 : Option Value) (l4 : Option Value) (l6 : Option Value) (l7 : Option Value) (l8 : Option Value) (l9 : Option Value) (x : Int32) (st : List Value) (σ : sS), Rx E d 290 342 [l0, l1, l2, l3, l4, some (.int x), l6, l7, l8, l9] st σ = Rx E d 290 344 [l0, l1, l2, l3, l4, some (.int x), l6, l7, l8, l9] (.int x :: st) σ) ∧
  (∀ (E : sV) (d : Nat) (l0 l1 l2 l3 l4 l5 l6 l7 l8 l9 : Option Value) (st : List Value) (σ : sS), Rx E d 290 344 [l0, l1, l2, l3, l4, l5, l6, l7, l8, l9] st σ = Rx E d 290 346 [l0, l1, l2, l3, l4, l5, l6, l7, l8, l9] (.int (6) :: st) σ) ∧
  (∀ (E : sV) (d : Nat) (l0 l1 l2 l3 l4 l5 l6 l7 l8 l9 : Option Value) (x y : Int32) (st : List Value) (σ : sS), Rx E d 290 346 [l0, l1, l2, l3, l4, l5, l6, l7, l8, l9] (.int y :: .int x :: st) σ = Rx E d 290 347 [l0, l1, l2, l3, l4, l5, l6, l7, l8, l9] (.int (x + y) :: st) σ) ∧
  (∀ (E : sV) (d : Nat) (l0 l1 l2 l3 l4 l5 l6 l7 l8 l9 : Option Value) (i : Int32) (a : Nat) (st : List Value) (σ : sS), Rx E d 290 347 [l0, l1, l2, l3, l4, l5, l6, l7, l8, l9] (.int i :: .ref a :: st) σ = (aldI .int σ.1 a i).bind (fun v => Rx E d 290 348 [l0, l1, l2, l3, l4, l5, l6, l7, l8, l9] (v :: st) σ)) ∧
  (∀ (E : sV) (d : Nat) (l0 l1 l2 l3 l4 l5 l6 l7 l8 l9 : Option Value) (v1 v2 v3 v4 v5 v6 : Value) (b : Nat) (st : List Value) (σ : sS), Rx E d 290 348 [l0, l1, l2, l3, l4, l5, l6, l7, l8, l9] (v6 :: v5 :: v4 :: v3 :: v2 :: v1 :: .ref b :: st) σ = if cats st ≤ 8 ∧ isOb σ.1 b 8 = true then callK (Mt E d 129 [.ref b, v1, v2, v3, v4, v5, v6] σ) (fun v σ => Rx E d 290 351 [l0, l1, l2, l3, l4, l5, l6, l7, l8, l9] (v.toList ++ st) σ) else none) ∧
  (∀ (E : sV) (d : Nat) (l0 l1 l2 l3 l4 l5 l6 l7 l8 l9 : Option Value) (x : Int32) (st : List Value) (σ : sS), Rx E d 290 351 [l0, l1, l2, l3, l4, l5, l6, l7, l8, l9] (.int x :: st) σ = Rx E d 290 353 [l0, l1, l2, l3, l4, l5, ldrop l6, some (.int x), l8, l9] st σ) ∧
  (∀ (E : sV) (d : Nat) (l0 : Option Value) (l1 : Option Value) (l3 : Option Value) (l4 : Option Value) (l5 : Option Value) (l6 : Option Value) (l7 : Option Value) (l8 : Option Value) (l9 : Option Value) (x : Nat) (st : List Value) (σ : sS), Rx E d 290 353 [l0, l1, some (.ref x), l3, l4, l5, l6, l7, l8, l9] st σ = Rx E d 290 354 [l0, l1, some (.ref x), l3, l4, l5, l6, l7, l8, l9] (.ref x :: st) σ) ∧
  (∀ (E : sV) (d : Nat) (l0 : Option Value) (l1 : Option Value) (l3 : Option Value) (l4 : Option Value) (l5 : Option Value) (l6 : Option Value) (l7 : Option Value) (l8 : Option Value) (l9 : Option Value) (st : List Value) (σ : sS), Rx E d 290 353 [l0, l1, some (.null), l3, l4, l5, l6, l7, l8, l9] st σ = Rx E d 290 354 [l0, l1, some (.null), l3, l4, l5, l6, l7, l8, l9] (.null :: st) σ) ∧
  (∀ (E : sV) (d : Nat) (l0 l1 l2 l3 l4 l5 l6 l7 l8 l9 : Option Value) (b : Nat) (st : List Value) (σ : sS), Rx E d 290 354 [l0, l1, l2, l3, l4, l5, l6, l7, l8, l9] (.ref b :: st) σ = if cats st ≤ 8 ∧ isOb σ.1 b 8 = true then callK (Mt E d 128 [.ref b] σ) (fun v σ => Rx E d 290 357 [l0, l1, l2, l3, l4, l5, l6, l7, l8, l9] (v.toList ++ st) σ) else none) ∧
  (∀ (E : sV) (d : Nat) (l0 : Option Value) (l1 : Option Value) (l2 : Option Value) (l3 : Option Value) (l4 : Option Value) (l5 : Option Value) (l7 : Option Value) (l8 : Option Value) (l9 : Option Value) (x : Int32) (st : List Value) (σ : sS), Rx E d 290 357 [l0, l1, l2, l3, l4, l5, some (.int x), l7, l8, l9] st σ = Rx E d 290 359 [l0, l1, l2, l3, l4, l5, some (.int x), l7, l8, l9] (.int x :: st) σ) ∧
  (∀ (E : sV) (d : Nat) (l0 l1 l2 l3 l4 l5 l6 l7 l8 l9 : Option Value) (x y : Int32) (st : List Value) (σ : sS), Rx E d 290 359 [l0, l1, l2, l3, l4, l5, l6, l7, l8, l9] (.int y :: .int x :: st) σ = if x = y then Rx E d 290 364 [l0, l1, l2, l3, l4, l5, l6, l7, l8, l9] st σ else Rx E d 290 362 [l0, l1, l2, l3, l4, l5, l6, l7, l8, l9] st σ) ∧
  (∀ (E : sV) (d : Nat) (l0 l1 l2 l3 l4 l5 l6 l7 l8 l9 : Option Value) (st : List Value) (σ : sS), Rx E d 290 362 [l0, l1, l2, l3, l4, l5, l6, l7, l8, l9] st σ = Rx E d 290 363 [l0, l1, l2, l3, l4, l5, l6, l7, l8, l9] (.int (0) :: st) σ) ∧
  (∀ (E : sV) (d : Nat) (l0 l1 l2 l3 l4 l5 l6 l7 l8 l9 : Option Value) (σ : sS), Rx E d 290 363 [l0, l1, l2, l3, l4, l5, l6, l7, l8, l9] [.int 0] σ = some (.inl (some (.int 0)), σ)) ∧
  (∀ (E : sV) (d : Nat) (l0 l1 l2 l3 l4 l5 l6 l7 l8 l9 : Option Value) (σ : sS), Rx E d 290 363 [l0, l1, l2, l3, l4, l5, l6, l7, l8, l9] [.int 1] σ = some (.inl (some (.int 1)), σ)) ∧
  (∀ (E : sV) (d : Nat) (l0 l1 l2 l3 l4 l5 l6 l7 l8 l9 : Option Value) (v : Int32) (σ : sS), Rx E d 290 363 [l0, l1, l2, l3, l4, l5, l6, l7, l8, l9] [.int v] σ = if narrow .boolean (.int v) = .int v then some (.inl (some (.int v)), σ) else none) ∧
  (∀ (E : sV) (d : Nat) (l0 : Option Value) (l1 : Option Value) (l2 : Option Value) (l3 : Option Value) (l4 : Option Value) (l5 : Option Value) (l7 : Option Value) (l8 : Option Value) (l9 : Option Value) (x : Int32) (st : List Value) (σ : sS), Rx E d 290 364 [l0, l1, l2, l3, l4, l5, some (.int x), l7, l8, l9] st σ = Rx E d 290 366 [l0, l1, l2, l3, l4, l5, some (.int x), l7, l8, l9] (.int x :: st) σ) := ⟨fun _ _ _ _ _ _ _ _ _ _ _ _ _ _ => Rx_of gMT_290 d290_329 rfl,
  fun _ _ _ _ _ _ _ _ _ _ _ _ _ => Rx_of gMT_290 d290_329 rfl,
  fun _ _ _ _ _ _ _ _ _ _ _ _ _ _ => Rx_of gMT_290 d290_330 rfl,
  fun _ _ _ _ _ _ _ _ _ _ _ _ _ _ => Rx_of gMT_290 d290_332 rfl,
  fun _ _ _ _ _ _ _ _ _ _ _ _ _ _ _ _ => Rx_of gMT_290 d290_333 rfl,
  fun _ _ _ _ _ _ _ _ _ _ _ _ _ _ _ _ => Rx_ald gMT_290 d290_334 rfl rfl,
  fun _ _ _ _ _ _ _ _ _ _ _ _ _ _ => Rx_of gMT_290 d290_335 rfl,
  fun _ _ _ _ _ _ _ _ _ _ _ _ _ => Rx_of gMT_290 d290_335 rfl,
  fun _ _ _ _ _ _ _ _ _ _ _ _ _ _ => Rx_of gMT_290 d290_336 rfl,
  fun _ _ _ _ _ _ _ _ _ _ _ _ _ _ => Rx_of gMT_290 d290_338 rfl,
  fun _ _ _ _ _ _ _ _ _ _ _ _ _ _ _ _ => Rx_of gMT_290 d290_339 rfl,
  fun _ _ _ _ _ _ _ _ _ _ _ _ _ _ _ _ => Rx_ald gMT_290 d290_340 rfl rfl,
  fun _ _ _ _ _ _ _ _ _ _ _ _ _ _ => Rx_of gMT_290 d290_341 rfl,
  fun _ _ _ _ _ _ _ _ _ _ _ _ _ => Rx_of gMT_290 d290_341 rfl,
  fun _ _ _ _ _ _ _ _ _ _ _ _ _ _ => Rx_of gMT_290 d290_342 rfl,
  fun _ _ _ _ _ _ _ _ _ _ _ _ _ _ => Rx_of gMT_290 d290_344 rfl,
  fun _ _ _ _ _ _ _ _ _ _ _ _ _ _ _ _ => Rx_of gMT_290 d290_346 rfl,
  fun _ _ _ _ _ _ _ _ _ _ _ _ _ _ _ _ => Rx_ald gMT_290 d290_347 rfl rfl,
  fun _ _ _ _ _ _ _ _ _ _ _ _ _ _ _ _ _ _ _ _ _ => Rx_callV gMT_290 d290_348 rfl rfl rfl rfl rfl,
  fun _ _ _ _ _ _ _ _ _ _ _ _ _ _ _ => Rx_of gMT_290 d290_351 rfl,
  fun _ _ _ _ _ _ _ _ _ _ _ _ _ _ => Rx_of gMT_290 d290_353 rfl,
  fun _ _ _ _ _ _ _ _ _ _ _ _ _ => Rx_of gMT_290 d290_353 rfl,
  fun _ _ _ _ _ _ _ _ _ _ _ _ _ _ _ => Rx_callV gMT_290 d290_354 rfl rfl rfl rfl rfl,
  fun _ _ _ _ _ _ _ _ _ _ _ _ _ _ => Rx_of gMT_290 d290_357 rfl,
  fun _ _ _ _ _ _ _ _ _ _ _ _ _ _ _ _ => Rx_icmp gMT_290 d290_359 rfl rfl (by decide),
  fun _ _ _ _ _ _ _ _ _ _ _ _ _ _ => Rx_of gMT_290 d290_362 rfl,
  fun _ _ _ _ _ _ _ _ _ _ _ _ _ => (Rx_iret gMT_290 d290_363 rfl rfl).trans (if_pos rfl),
  fun _ _ _ _ _ _ _ _ _ _ _ _ _ => (Rx_iret gMT_290 d290_363 rfl rfl).trans (if_pos rfl),
  fun _ _ _ _ _ _ _ _ _ _ _ _ _ _ => Rx_iret gMT_290 d290_363 rfl rfl,
  fun _ _ _ _ _ _ _ _ _ _ _ _ _ _ => Rx_of gMT_290 d290_364 rfl⟩
theorem QLaw_law_6 : (∀ (E : sV) (d : Nat) (l0 l1 l2 l3 l4 l5 l6 l7 l8 l9 : Option Value) (x : Int32) (st : List Value) (σ : sS), Rx E d 290 366 [l0, l1, l2, l3, l4, l5, l6, l7, l8, l9] (.int x :: st) σ = if ¬ x = 0 then Rx E d 290 381 [l0, l1, l2, l3, l4, l5, l6, l7, l8, l9] st σ else Rx E d 290 369 [l0, l1, l2, l3, l4, l5, l6, l7, l8, l9] st σ) ∧
  (∀ (E : sV) (d : Nat) (l0 : Option Value) (l1 : Option Value) (l2 : Option Value) (l4 : Option Value) (l5 : Option Value) (l6 : Option Value) (l7 : Option Value) (l8 : Option Value) (l9 : Option Value) (x : Nat) (st : List Value) (σ : sS), Rx E d 290 369 [l0, l1, l2, some (.ref x), l4, l5, l6, l7, l8, l9] st σ = Rx E d 290 370 [l0, l1, l2, some (.ref x), l4, l5, l6, l7, l8, l9] (.ref x :: st) σ) ∧
  (∀ (E : sV) (d : Nat) (l0 : Option Value) (l1 : Option Value) (l2 : Option Value) (l4 : Option Value) (l5 : Option Value) (l6 : Option Value) (l7 : Option Value) (l8 : Option Value) (l9 : Option Value) (st : List Value) (σ : sS), Rx E d 290 369 [l0, l1, l2, some (.null), l4, l5, l6, l7, l8, l9] st σ = Rx E d 290 370 [l0, l1, l2, some (.null), l4, l5, l6, l7, l8, l9] (.null :: st) σ) ∧
  (∀ (E : sV) (d : Nat) (l0 l1 l2 l3 l4 l5 l6 l7 l8 l9 : Option Value) (st : List Value) (σ : sS), Rx E d 290 370 [l0, l1, l2, l3, l4, l5, l6, l7, l8, l9] st σ = Rx E d 290 371 [l0, l1, l2, l3, l4, l5, l6, l7, l8, l9] (.int (0) :: st) σ) ∧
  (∀ (E : sV) (d : Nat) (l0 l1 l2 l3 l4 l5 l6 l7 l8 l9 : Option Value) (i : Int32) (a : Nat) (st : List Value) (σ : sS), Rx E d 290 371 [l0, l1, l2, l3, l4, l5, l6, l7, l8, l9] (.int i :: .ref a :: st) σ = (aldL σ.1 a i).bind (fun v => Rx E d 290 372 [l0, l1, l2, l3, l4, l5, l6, l7, l8, l9] (v :: st) σ)) ∧
  (∀ (E : sV) (d : Nat) (l0 : Option Value) (l1 : Option Value) (l2 : Option Value) (l3 : Option Value) (l4 : Option Value) (l5 : Option Value) (l6 : Option Value) (l8 : Option Value) (l9 : Option Value) (x : Int32) (st : List Value) (σ : sS), Rx E d 290 372 [l0, l1, l2, l3, l4, l5, l6, some (.int x), l8, l9] st σ = Rx E d 290 374 [l0, l1, l2, l3, l4, l5, l6, some (.int x), l8, l9] (.int x :: st) σ) ∧
  (∀ (E : sV) (d : Nat) (l0 l1 l2 l3 l4 l5 l6 l7 l8 l9 : Option Value) (x : Int32) (st : List Value) (σ : sS), Rx E d 290 374 [l0, l1, l2, l3, l4, l5, l6, l7, l8, l9] (.int x :: st) σ = Rx E d 290 375 [l0, l1, l2, l3, l4, l5, l6, l7, l8, l9] (.long x.toInt64 :: st) σ) ∧
  (∀ (E : sV) (d : Nat) (l0 l1 l2 l3 l4 l5 l6 l7 l8 l9 : Option Value) (x y : Int64) (st : List Value) (σ : sS), Rx E d 290 375 [l0, l1, l2, l3, l4, l5, l6, l7, l8, l9] (.long y :: .long x :: st) σ = Rx E d 290 376 [l0, l1, l2, l3, l4, l5, l6, l7, l8, l9] (.int (lg_cmp x y) :: st) σ) ∧
  (∀ (E : sV) (d : Nat) (l0 l1 l2 l3 l4 l5 l6 l7 l8 l9 : Option Value) (x : Int32) (st : List Value) (σ : sS), Rx E d 290 376 [l0, l1, l2, l3, l4, l5, l6, l7, l8, l9] (.int x :: st) σ = if x = 0 then Rx E d 290 381 [l0, l1, l2, l3, l4, l5, l6, l7, l8, l9] st σ else Rx E d 290 379 [l0, l1, l2, l3, l4, l5, l6, l7, l8, l9] st σ) ∧
  (∀ (E : sV) (d : Nat) (l0 l1 l2 l3 l4 l5 l6 l7 l8 l9 : Option Value) (st : List Value) (σ : sS), Rx E d 290 379 [l0, l1, l2, l3, l4, l5, l6, l7, l8, l9] st σ = Rx E d 290 380 [l0, l1, l2, l3, l4, l5, l6, l7, l8, l9] (.int (0) :: st) σ) ∧
  (∀ (E : sV) (d : Nat) (l0 l1 l2 l3 l4 l5 l6 l7 l8 l9 : Option Value) (σ : sS), Rx E d 290 380 [l0, l1, l2, l3, l4, l5, l6, l7, l8, l9] [.int 0] σ = some (.inl (some (.int 0)), σ)) ∧
  (∀ (E : sV) (d : Nat) (l0 l1 l2 l3 l4 l5 l6 l7 l8 l9 : Option Value) (σ : sS), Rx E d 290 380 [l0, l1, l2, l3, l4, l5, l6, l7, l8, l9] [.int 1] σ = some (.inl (some (.int 1)), σ)) ∧
  (∀ (E : sV) (d : Nat) (l0 l1 l2 l3 l4 l5 l6 l7 l8 l9 : Option Value) (v : Int32) (σ : sS), Rx E d 290 380 [l0, l1, l2, l3, l4, l5, l6, l7, l8, l9] [.int v] σ = if narrow .boolean (.int v) = .int v then some (.inl (some (.int v)), σ) else none) ∧
  (∀ (E : sV) (d : Nat) (l0 l1 l2 l3 l4 l5 l6 l7 l8 l9 : Option Value) (st : List Value) (σ : sS), Rx E d 290 381 [l0, l1, l2, l3, l4, l5, l6, l7, l8, l9] st σ = Rx E d 290 3001 [l0, l1, l2, l3, l4, l5, l6, l7, l8, l9] st σ) ∧
  (∀ (E : sV) (d : Nat) (l0 : Option Value) (l2 : Option Value) (l3 : Option Value) (l4 : Option Value) (l5 : Option Value) (l6 : Option Value) (l7 : Option Value) (l8 : Option Value) (l9 : Option Value) (x : Nat) (st : List Value) (σ : sS), Rx E d 290 384 [l0, some (.ref x), l2, l3, l4, l5, l6, l7, l8, l9] st σ = Rx E d 290 385 [l0, some (.ref x), l2, l3, l4, l5, l6, l7, l8, l9] (.ref x :: st) σ) ∧
  (∀ (E : sV) (d : Nat) (l0 : Option Value) (l2 : Option Value) (l3 : Option Value) (l4 : Option Value) (l5 : Option Value) (l6 : Option Value) (l7 : Option Value) (l8 : Option Value) (l9 : Option Value) (st : List Value) (σ : sS), Rx E d 290 384 [l0, some (.null), l2, l3, l4, l5, l6, l7, l8, l9] st σ = Rx E d 290 385 [l0, some (.null), l2, l3, l4, l5, l6, l7, l8, l9] (.null :: st) σ) ∧
  (∀ (E : sV) (d : Nat) (l1 : Option Value) (l2 : Option Value) (l3 : Option Value) (l4 : Option Value) (l5 : Option Value) (l6 : Option Value) (l7 : Option Value) (l8 : Option Value) (l9 : Option Value) (x : Nat) (st : List Value) (σ : sS), Rx E d 290 385 [some (.ref x), l1, l2, l3, l4, l5, l6, l7, l8, l9] st σ = Rx E d 290 386 [some (.ref x), l1, l2, l3, l4, l5, l6, l7, l8, l9] (.ref x :: st) σ) ∧
  (∀ (E : sV) (d : Nat) (l1 : Option Value) (l2 : Option Value) (l3 : Option Value) (l4 : Option Value) (l5 : Option Value) (l6 : Option Value) (l7 : Option Value) (l8 : Option Value) (l9 : Option Value) (st : List Value) (σ : sS), Rx E d 290 385 [some (.null), l1, l2, l3, l4, l5, l6, l7, l8, l9] st σ = Rx E d 290 386 [some (.null), l1, l2, l3, l4, l5, l6, l7, l8, l9] (.null :: st) σ) ∧
  (∀ (E : sV) (d : Nat) (l0 : Option Value) (l1 : Option Value) (l2 : Option Value) (l3 : Option Value) (l4 : Option Value) (l6 : Option Value) (l7 : Option Value) (l8 : Option Value) (l9 : Option Value) (x : Int32) (st : List Value) (σ : sS), Rx E d 290 386 [l0, l1, l2, l3, l4, some (.int x), l6, l7, l8, l9] st σ = Rx E d 290 388 [l0, l1, l2, l3, l4, some (.int x), l6, l7, l8, l9] (.int x :: st) σ) ∧
  (∀ (E : sV) (d : Nat) (l0 l1 l2 l3 l4 l5 l6 l7 l8 l9 : Option Value) (st : List Value) (σ : sS), Rx E d 290 388 [l0, l1, l2, l3, l4, l5, l6, l7, l8, l9] st σ = Rx E d 290 389 [l0, l1, l2, l3, l4, l5, l6, l7, l8, l9] (.int (1) :: st) σ) ∧
  (∀ (E : sV) (d : Nat) (l0 l1 l2 l3 l4 l5 l6 l7 l8 l9 : Option Value) (x y : Int32) (st : List Value) (σ : sS), Rx E d 290 389 [l0, l1, l2, l3, l4, l5, l6, l7, l8, l9] (.int y :: .int x :: st) σ = Rx E d 290 390 [l0, l1, l2, l3, l4, l5, l6, l7, l8, l9] (.int (x + y) :: st) σ) ∧
  (∀ (E : sV) (d : Nat) (l0 l1 l2 l3 l4 l5 l6 l7 l8 l9 : Option Value) (i : Int32) (a : Nat) (st : List Value) (σ : sS), Rx E d 290 390 [l0, l1, l2, l3, l4, l5, l6, l7, l8, l9] (.int i :: .ref a :: st) σ = (aldI .int σ.1 a i).bind (fun v => Rx E d 290 391 [l0, l1, l2, l3, l4, l5, l6, l7, l8, l9] (v :: st) σ)) ∧
  (∀ (E : sV) (d : Nat) (l0 : Option Value) (l1 : Option Value) (l2 : Option Value) (l4 : Option Value) (l5 : Option Value) (l6 : Option Value) (l7 : Option Value) (l8 : Option Value) (l9 : Option Value) (x : Nat) (st : List Value) (σ : sS), Rx E d 290 391 [l0, l1, l2, some (.ref x), l4, l5, l6, l7, l8, l9] st σ = Rx E d 290 392 [l0, l1, l2, some (.ref x), l4, l5, l6, l7, l8, l9] (.ref x :: st) σ) ∧
  (∀ (E : sV) (d : Nat) (l0 : Option Value) (l1 : Option Value) (l2 : Option Value) (l4 : Option Value) (l5 : Option Value) (l6 : Option Value) (l7 : Option Value) (l8 : Option Value) (l9 : Option Value) (st : List Value) (σ : sS), Rx E d 290 391 [l0, l1, l2, some (.null), l4, l5, l6, l7, l8, l9] st σ = Rx E d 290 392 [l0, l1, l2, some (.null), l4, l5, l6, l7, l8, l9] (.null :: st) σ) ∧
  (∀ (E : sV) (d : Nat) (l0 l1 l2 l3 l4 l5 l6 l7 l8 l9 : Option Value) (v1 v2 v3 : Value) (st : List Value) (σ : sS), Rx E d 290 392 [l0, l1, l2, l3, l4, l5, l6, l7, l8, l9] (v3 :: v2 :: v1 :: st) σ = if cats st ≤ 8 then callK (Mt E d 248 [v1, v2, v3] σ) (fun v σ => Rx E d 290 395 [l0, l1, l2, l3, l4, l5, l6, l7, l8, l9] (v.toList ++ st) σ) else none) ∧
  (∀ (E : sV) (d : Nat) (l0 l1 l2 l3 l4 l5 l6 l7 l8 l9 : Option Value) (x : Int32) (st : List Value) (σ : sS), Rx E d 290 395 [l0, l1, l2, l3, l4, l5, l6, l7, l8, l9] (.int x :: st) σ = Rx E d 290 397 [l0, l1, l2, l3, l4, ldrop l5, some (.int x), l7, l8, l9] st σ) ∧
  (∀ (E : sV) (d : Nat) (l0 : Option Value) (l1 : Option Value) (l3 : Option Value) (l4 : Option Value) (l5 : Option Value) (l6 : Option Value) (l7 : Option Value) (l8 : Option Value) (l9 : Option Value) (x : Nat) (st : List Value) (σ : sS), Rx E d 290 397 [l0, l1, some (.ref x), l3, l4, l5, l6, l7, l8, l9] st σ = Rx E d 290 398 [l0, l1, some (.ref x), l3, l4, l5, l6, l7, l8, l9] (.ref x :: st) σ) ∧
  (∀ (E : sV) (d : Nat) (l0 : Option Value) (l1 : Option Value) (l3 : Option Value) (l4 : Option Value) (l5 : Option Value) (l6 : Option Value) (l7 : Option Value) (l8 : Option Value) (l9 : Option Value) (st : List Value) (σ : sS), Rx E d 290 397 [l0, l1, some (.null), l3, l4, l5, l6, l7, l8, l9] st σ = Rx E d 290 398 [l0, l1, some (.null), l3, l4, l5, l6, l7, l8, l9] (.null :: st) σ) ∧
  (∀ (E : sV) (d : Nat) (l1 : Option Value) (l2 : Option Value) (l3 : Option Value) (l4 : Option Value) (l5 : Option Value) (l6 : Option Value) (l7 : Option Value) (l8 : Option Value) (l9 : Option Value) (x : Nat) (st : List Value) (σ : sS), Rx E d 290 398 [some (.ref x), l1, l2, l3, l4, l5, l6, l7, l8, l9] st σ = Rx E d 290 399 [some (.ref x), l1, l2, l3, l4, l5, l6, l7, l8, l9] (.ref x :: st) σ) ∧
  (∀ (E : sV) (d : Nat) (l1 : Option Value) (l2 : Option Value) (l3 : Option Value) (l4 : Option Value) (l5 : Option Value) (l6 : Option Value) (l7 : Option Value) (l8 : Option Value) (l9 : Option Value) (st : List Value) (σ : sS), Rx E d 290 398 [some (.null), l1, l2, l3, l4, l5, l6, l7, l8, l9] st σ = Rx E d 290 399 [some (.null), l1, l2, l3, l4, l5, l6, l7, l8, l9] (.null :: st) σ) := ⟨fun _ _ _ _ _ _ _ _ _ _ _ _ _ _ _ => Rx_if gMT_290 d290_366 rfl rfl (by decide),
  fun _ _ _ _ _ _ _ _ _ _ _ _ _ _ => Rx_of gMT_290 d290_369 rfl,
  fun _ _ _ _ _ _ _ _ _ _ _ _ _ => Rx_of gMT_290 d290_369 rfl,
  fun _ _ _ _ _ _ _ _ _ _ _ _ _ _ => Rx_of gMT_290 d290_370 rfl,
  fun _ _ _ _ _ _ _ _ _ _ _ _ _ _ _ _ => Rx_ald gMT_290 d290_371 rfl rfl,
  fun _ _ _ _ _ _ _ _ _ _ _ _ _ _ => Rx_of gMT_290 d290_372 rfl,
  fun _ _ _ _ _ _ _ _ _ _ _ _ _ _ _ => Rx_of gMT_290 d290_374 rfl,
  fun _ _ _ _ _ _ _ _ _ _ _ _ _ _ _ _ => Rx_of gMT_290 d290_375 rfl,
  fun _ _ _ _ _ _ _ _ _ _ _ _ _ _ _ => Rx_if gMT_290 d290_376 rfl rfl (by decide),
  fun _ _ _ _ _ _ _ _ _ _ _ _ _ _ => Rx_of gMT_290 d290_379 rfl,
  fun _ _ _ _ _ _ _ _ _ _ _ _ _ => (Rx_iret gMT_290 d290_380 rfl rfl).trans (if_pos rfl),
  fun _ _ _ _ _ _ _ _ _ _ _ _ _ => (Rx_iret gMT_290 d290_380 rfl rfl).trans (if_pos rfl),
  fun _ _ _ _ _ _ _ _ _ _ _ _ _ _ => Rx_iret gMT_290 d290_380 rfl rfl,
  fun _ _ _ _ _ _ _ _ _ _ _ _ _ _ => Rx_goto gMT_290 d290_381 rfl (by decide),
  fun _ _ _ _ _ _ _ _ _ _ _ _ _ _ => Rx_of gMT_290 d290_384 rfl,
  fun _ _ _ _ _ _ _ _ _ _ _ _ _ => Rx_of gMT_290 d290_384 rfl,
  fun _ _ _ _ _ _ _ _ _ _ _ _ _ _ => Rx_of gMT_290 d290_385 rfl,
  fun _ _ _ _ _ _ _ _ _ _ _ _ _ => Rx_of gMT_290 d290_385 rfl,
  fun _ _ _ _ _ _ _ _ _ _ _ _ _ _ => Rx_of gMT_290 d290_386 rfl,
  fun _ _ _ _ _ _ _ _ _ _ _ _ _ _ => Rx_of gMT_290 d290_388 rfl,
  fun _ _ _ _ _ _ _ _ _ _ _ _ _ _ _ _ => Rx_of gMT_290 d290_389 rfl,
  fun _ _ _ _ _ _ _ _ _ _ _ _ _ _ _ _ => Rx_ald gMT_290 d290_390 rfl rfl,
  fun _ _ _ _ _ _ _ _ _ _ _ _ _ _ => Rx_of gMT_290 d290_391 rfl,
  fun _ _ _ _ _ _ _ _ _ _ _ _ _ => Rx_of gMT_290 d290_391 rfl,
  fun _ _ _ _ _ _ _ _ _ _ _ _ _ _ _ _ _ => Rx_callS gMT_290 d290_392 rfl rfl rfl rfl rfl,
  fun _ _ _ _ _ _ _ _ _ _ _ _ _ _ _ => Rx_of gMT_290 d290_395 rfl,
  fun _ _ _ _ _ _ _ _ _ _ _ _ _ _ => Rx_of gMT_290 d290_397 rfl,
  fun _ _ _ _ _ _ _ _ _ _ _ _ _ => Rx_of gMT_290 d290_397 rfl,
  fun _ _ _ _ _ _ _ _ _ _ _ _ _ _ => Rx_of gMT_290 d290_398 rfl,
  fun _ _ _ _ _ _ _ _ _ _ _ _ _ => Rx_of gMT_290 d290_398 rfl⟩
theorem QLaw_law_7 : (∀ (E : sV) (d : Nat) (l0 : Option Value) (l1 : Option Value) (l2 : Option Value) (l3 : Option Value) (l4 : Option Value) (l6 : Option Value) (l7 : Option Value) (l8 : Option Value) (l9 : Option Value) (x : Int32) (st : List Value) (σ : sS), Rx E d 290 399 [l0, l1, l2, l3, l4, some (.int x), l6, l7, l8, l9] st σ = Rx E d 290 401 [l0, l1, l2, l3, l4, some (.int x), l6, l7, l8, l9] (.int x :: st) σ) ∧
  (∀ (E : sV) (d : Nat) (l0 l1 l2 l3 l4 l5 l6 l7 l8 l9 : Option Value) (st : List Value) (σ : sS), Rx E d 290 401 [l0, l1, l2, l3, l4, l5, l6, l7, l8, l9] st σ = Rx E d 290 402 [l0, l1, l2, l3, l4, l5, l6, l7, l8, l9] (.int (1) :: st) σ) ∧
  (∀ (E : sV) (d : Nat) (l0 l1 l2 l3 l4 l5 l6 l7 l8 l9 : Option Value) (x y : Int32) (st : List Value) (σ : sS), Rx E d 290 402 [l0, l1, l2, l3, l4, l5, l6, l7, l8, l9] (.int y :: .int x :: st) σ = Rx E d 290 403 [l0, l1, l2, l3, l4, l5, l6, l7, l8, l9] (.int (x + y) :: st) σ) ∧
  (∀ (E : sV) (d : Nat) (l0 l1 l2 l3 l4 l5 l6 l7 l8 l9 : Option Value) (i : Int32) (a : Nat) (st : List Value) (σ : sS), Rx E d 290 403 [l0, l1, l2, l3, l4, l5, l6, l7, l8, l9] (.int i :: .ref a :: st) σ = (aldI .int σ.1 a i).bind (fun v => Rx E d 290 404 [l0, l1, l2, l3, l4, l5, l6, l7, l8, l9] (v :: st) σ)) ∧
  (∀ (E : sV) (d : Nat) (l0 l1 l2 l3 l4 l5 l6 l7 l8 l9 : Option Value) (v1 : Value) (b : Nat) (st : List Value) (σ : sS), Rx E d 290 404 [l0, l1, l2, l3, l4, l5, l6, l7, l8, l9] (v1 :: .ref b :: st) σ = if cats st ≤ 8 ∧ isOb σ.1 b 8 = true then callK (Mt E d 139 [.ref b, v1] σ) (fun v σ => Rx E d 290 407 [l0, l1, l2, l3, l4, l5, l6, l7, l8, l9] (v.toList ++ st) σ) else none) ∧
  (∀ (E : sV) (d : Nat) (l0 l1 l2 l3 l4 l5 l6 l7 l8 l9 : Option Value) (x : Int32) (st : List Value) (σ : sS), Rx E d 290 407 [l0, l1, l2, l3, l4, l5, l6, l7, l8, l9] (.int x :: st) σ = Rx E d 290 409 [l0, l1, l2, l3, l4, l5, ldrop l6, some (.int x), l8, l9] st σ) ∧
  (∀ (E : sV) (d : Nat) (l0 : Option Value) (l1 : Option Value) (l3 : Option Value) (l4 : Option Value) (l5 : Option Value) (l6 : Option Value) (l7 : Option Value) (l8 : Option Value) (l9 : Option Value) (x : Nat) (st : List Value) (σ : sS), Rx E d 290 409 [l0, l1, some (.ref x), l3, l4, l5, l6, l7, l8, l9] st σ = Rx E d 290 410 [l0, l1, some (.ref x), l3, l4, l5, l6, l7, l8, l9] (.ref x :: st) σ) ∧
  (∀ (E : sV) (d : Nat) (l0 : Option Value) (l1 : Option Value) (l3 : Option Value) (l4 : Option Value) (l5 : Option Value) (l6 : Option Value) (l7 : Option Value) (l8 : Option Value) (l9 : Option Value) (st : List Value) (σ : sS), Rx E d 290 409 [l0, l1, some (.null), l3, l4, l5, l6, l7, l8, l9] st σ = Rx E d 290 410 [l0, l1, some (.null), l3, l4, l5, l6, l7, l8, l9] (.null :: st) σ) ∧
  (∀ (E : sV) (d : Nat) (l0 l1 l2 l3 l4 l5 l6 l7 l8 l9 : Option Value) (b : Nat) (st : List Value) (σ : sS), Rx E d 290 410 [l0, l1, l2, l3, l4, l5, l6, l7, l8, l9] (.ref b :: st) σ = if cats st ≤ 8 ∧ isOb σ.1 b 8 = true then callK (Mt E d 128 [.ref b] σ) (fun v σ => Rx E d 290 413 [l0, l1, l2, l3, l4, l5, l6, l7, l8, l9] (v.toList ++ st) σ) else none) ∧
  (∀ (E : sV) (d : Nat) (l0 : Option Value) (l1 : Option Value) (l2 : Option Value) (l3 : Option Value) (l4 : Option Value) (l5 : Option Value) (l7 : Option Value) (l8 : Option Value) (l9 : Option Value) (x : Int32) (st : List Value) (σ : sS), Rx E d 290 413 [l0, l1, l2, l3, l4, l5, some (.int x), l7, l8, l9] st σ = Rx E d 290 415 [l0, l1, l2, l3, l4, l5, some (.int x), l7, l8, l9] (.int x :: st) σ) ∧
  (∀ (E : sV) (d : Nat) (l0 l1 l2 l3 l4 l5 l6 l7 l8 l9 : Option Value) (x y : Int32) (st : List Value) (σ : sS), Rx E d 290 415 [l0, l1, l2, l3, l4, l5, l6, l7, l8, l9] (.int y :: .int x :: st) σ = if x = y then Rx E d 290 420 [l0, l1, l2, l3, l4, l5, l6, l7, l8, l9] st σ else Rx E d 290 418 [l0, l1, l2, l3, l4, l5, l6, l7, l8, l9] st σ) ∧
  (∀ (E : sV) (d : Nat) (l0 l1 l2 l3 l4 l5 l6 l7 l8 l9 : Option Value) (st : List Value) (σ : sS), Rx E d 290 418 [l0, l1, l2, l3, l4, l5, l6, l7, l8, l9] st σ = Rx E d 290 419 [l0, l1, l2, l3, l4, l5, l6, l7, l8, l9] (.int (0) :: st) σ) ∧
  (∀ (E : sV) (d : Nat) (l0 l1 l2 l3 l4 l5 l6 l7 l8 l9 : Option Value) (σ : sS), Rx E d 290 419 [l0, l1, l2, l3, l4, l5, l6, l7, l8, l9] [.int 0] σ = some (.inl (some (.int 0)), σ)) ∧
  (∀ (E : sV) (d : Nat) (l0 l1 l2 l3 l4 l5 l6 l7 l8 l9 : Option Value) (σ : sS), Rx E d 290 419 [l0, l1, l2, l3, l4, l5, l6, l7, l8, l9] [.int 1] σ = some (.inl (some (.int 1)), σ)) ∧
  (∀ (E : sV) (d : Nat) (l0 l1 l2 l3 l4 l5 l6 l7 l8 l9 : Option Value) (v : Int32) (σ : sS), Rx E d 290 419 [l0, l1, l2, l3, l4, l5, l6, l7, l8, l9] [.int v] σ = if narrow .boolean (.int v) = .int v then some (.inl (some (.int v)), σ) else none) ∧
  (∀ (E : sV) (d : Nat) (l0 : Option Value) (l1 : Option Value) (l2 : Option Value) (l3 : Option Value) (l4 : Option Value) (l5 : Option Value) (l7 : Option Value) (l8 : Option Value) (l9 : Option Value) (x : Int32) (st : List Value) (σ : sS), Rx E d 290 420 [l0, l1, l2, l3, l4, l5, some (.int x), l7, l8, l9] st σ = Rx E d 290 422 [l0, l1, l2, l3, l4, l5, some (.int x), l7, l8, l9] (.int x :: st) σ) ∧
  (∀ (E : sV) (d : Nat) (l0 l1 l2 l3 l4 l5 l6 l7 l8 l9 : Option Value) (x : Int32) (st : List Value) (σ : sS), Rx E d 290 422 [l0, l1, l2, l3, l4, l5, l6, l7, l8, l9] (.int x :: st) σ = if ¬ x = 0 then Rx E d 290 437 [l0, l1, l2, l3, l4, l5, l6, l7, l8, l9] st σ else Rx E d 290 425 [l0, l1, l2, l3, l4, l5, l6, l7, l8, l9] st σ) ∧
  (∀ (E : sV) (d : Nat) (l0 : Option Value) (l1 : Option Value) (l2 : Option Value) (l4 : Option Value) (l5 : Option Value) (l6 : Option Value) (l7 : Option Value) (l8 : Option Value) (l9 : Option Value) (x : Nat) (st : List Value) (σ : sS), Rx E d 290 425 [l0, l1, l2, some (.ref x), l4, l5, l6, l7, l8, l9] st σ = Rx E d 290 426 [l0, l1, l2, some (.ref x), l4, l5, l6, l7, l8, l9] (.ref x :: st) σ) ∧
  (∀ (E : sV) (d : Nat) (l0 : Option Value) (l1 : Option Value) (l2 : Option Value) (l4 : Option Value) (l5 : Option Value) (l6 : Option Value) (l7 : Option Value) (l8 : Option Value) (l9 : Option Value) (st : List Value) (σ : sS), Rx E d 290 425 [l0, l1, l2, some (.null), l4, l5, l6, l7, l8, l9] st σ = Rx E d 290 426 [l0, l1, l2, some (.null), l4, l5, l6, l7, l8, l9] (.null :: st) σ) ∧
  (∀ (E : sV) (d : Nat) (l0 l1 l2 l3 l4 l5 l6 l7 l8 l9 : Option Value) (st : List Value) (σ : sS), Rx E d 290 426 [l0, l1, l2, l3, l4, l5, l6, l7, l8, l9] st σ = Rx E d 290 427 [l0, l1, l2, l3, l4, l5, l6, l7, l8, l9] (.int (0) :: st) σ) ∧
  (∀ (E : sV) (d : Nat) (l0 l1 l2 l3 l4 l5 l6 l7 l8 l9 : Option Value) (i : Int32) (a : Nat) (st : List Value) (σ : sS), Rx E d 290 427 [l0, l1, l2, l3, l4, l5, l6, l7, l8, l9] (.int i :: .ref a :: st) σ = (aldL σ.1 a i).bind (fun v => Rx E d 290 428 [l0, l1, l2, l3, l4, l5, l6, l7, l8, l9] (v :: st) σ)) ∧
  (∀ (E : sV) (d : Nat) (l0 : Option Value) (l1 : Option Value) (l2 : Option Value) (l3 : Option Value) (l4 : Option Value) (l5 : Option Value) (l6 : Option Value) (l8 : Option Value) (l9 : Option Value) (x : Int32) (st : List Value) (σ : sS), Rx E d 290 428 [l0, l1, l2, l3, l4, l5, l6, some (.int x), l8, l9] st σ = Rx E d 290 430 [l0, l1, l2, l3, l4, l5, l6, some (.int x), l8, l9] (.int x :: st) σ) ∧
  (∀ (E : sV) (d : Nat) (l0 l1 l2 l3 l4 l5 l6 l7 l8 l9 : Option Value) (x : Int32) (st : List Value) (σ : sS), Rx E d 290 430 [l0, l1, l2, l3, l4, l5, l6, l7, l8, l9] (.int x :: st) σ = Rx E d 290 431 [l0, l1, l2, l3, l4, l5, l6, l7, l8, l9] (.long x.toInt64 :: st) σ) ∧
  (∀ (E : sV) (d : Nat) (l0 l1 l2 l3 l4 l5 l6 l7 l8 l9 : Option Value) (x y : Int64) (st : List Value) (σ : sS), Rx E d 290 431 [l0, l1, l2, l3, l4, l5, l6, l7, l8, l9] (.long y :: .long x :: st) σ = Rx E d 290 432 [l0, l1, l2, l3, l4, l5, l6, l7, l8, l9] (.int (lg_cmp x y) :: st) σ) ∧
  (∀ (E : sV) (d : Nat) (l0 l1 l2 l3 l4 l5 l6 l7 l8 l9 : Option Value) (x : Int32) (st : List Value) (σ : sS), Rx E d 290 432 [l0, l1, l2, l3, l4, l5, l6, l7, l8, l9] (.int x :: st) σ = if x = 0 then Rx E d 290 437 [l0, l1, l2, l3, l4, l5, l6, l7, l8, l9] st σ else Rx E d 290 435 [l0, l1, l2, l3, l4, l5, l6, l7, l8, l9] st σ) ∧
  (∀ (E : sV) (d : Nat) (l0 l1 l2 l3 l4 l5 l6 l7 l8 l9 : Option Value) (st : List Value) (σ : sS), Rx E d 290 435 [l0, l1, l2, l3, l4, l5, l6, l7, l8, l9] st σ = Rx E d 290 436 [l0, l1, l2, l3, l4, l5, l6, l7, l8, l9] (.int (0) :: st) σ) ∧
  (∀ (E : sV) (d : Nat) (l0 l1 l2 l3 l4 l5 l6 l7 l8 l9 : Option Value) (σ : sS), Rx E d 290 436 [l0, l1, l2, l3, l4, l5, l6, l7, l8, l9] [.int 0] σ = some (.inl (some (.int 0)), σ)) ∧
  (∀ (E : sV) (d : Nat) (l0 l1 l2 l3 l4 l5 l6 l7 l8 l9 : Option Value) (σ : sS), Rx E d 290 436 [l0, l1, l2, l3, l4, l5, l6, l7, l8, l9] [.int 1] σ = some (.inl (some (.int 1)), σ)) ∧
  (∀ (E : sV) (d : Nat) (l0 l1 l2 l3 l4 l5 l6 l7 l8 l9 : Option Value) (v : Int32) (σ : sS), Rx E d 290 436 [l0, l1, l2, l3, l4, l5, l6, l7, l8, l9] [.int v] σ = if narrow .boolean (.int v) = .int v then some (.inl (some (.int v)), σ) else none) ∧
  (∀ (E : sV) (d : Nat) (l0 l1 l2 l3 l4 l5 l6 l7 l8 l9 : Option Value) (st : List Value) (σ : sS), Rx E d 290 437 [l0, l1, l2, l3, l4, l5, l6, l7, l8, l9] st σ = Rx E d 290 3001 [l0, l1, l2, l3, l4, l5, l6, l7, l8, l9] st σ) := ⟨fun _ _ _ _ _ _ _ _ _ _ _ _ _ _ => Rx_of gMT_290 d290_399 rfl,
  fun _ _ _ _ _ _ _ _ _ _ _ _ _ _ => Rx_of gMT_290 d290_401 rfl,
  fun _ _ _ _ _ _ _ _ _ _ _ _ _ _ _ _ => Rx_of gMT_290 d290_402 rfl,
  fun _ _ _ _ _ _ _ _ _ _ _ _ _ _ _ _ => Rx_ald gMT_290 d290_403 rfl rfl,
  fun _ _ _ _ _ _ _ _ _ _ _ _ _ _ _ _ => Rx_callV gMT_290 d290_404 rfl rfl rfl rfl rfl,
  fun _ _ _ _ _ _ _ _ _ _ _ _ _ _ _ => Rx_of gMT_290 d290_407 rfl,
  fun _ _ _ _ _ _ _ _ _ _ _ _ _ _ => Rx_of gMT_290 d290_409 rfl,
  fun _ _ _ _ _ _ _ _ _ _ _ _ _ => Rx_of gMT_290 d290_409 rfl,
  fun _ _ _ _ _ _ _ _ _ _ _ _ _ _ _ => Rx_callV gMT_290 d290_410 rfl rfl rfl rfl rfl,
  fun _ _ _ _ _ _ _ _ _ _ _ _ _ _ => Rx_of gMT_290 d290_413 rfl,
  fun _ _ _ _ _ _ _ _ _ _ _ _ _ _ _ _ => Rx_icmp gMT_290 d290_415 rfl rfl (by decide),
  fun _ _ _ _ _ _ _ _ _ _ _ _ _ _ => Rx_of gMT_290 d290_418 rfl,
  fun _ _ _ _ _ _ _ _ _ _ _ _ _ => (Rx_iret gMT_290 d290_419 rfl rfl).trans (if_pos rfl),
  fun _ _ _ _ _ _ _ _ _ _ _ _ _ => (Rx_iret gMT_290 d290_419 rfl rfl).trans (if_pos rfl),
  fun _ _ _ _ _ _ _ _ _ _ _ _ _ _ => Rx_iret gMT_290 d290_419 rfl rfl,
  fun _ _ _ _ _ _ _ _ _ _ _ _ _ _ => Rx_of gMT_290 d290_420 rfl,
  fun _ _ _ _ _ _ _ _ _ _ _ _ _ _ _ => Rx_if gMT_290 d290_422 rfl rfl (by decide),
  fun _ _ _ _ _ _ _ _ _ _ _ _ _ _ => Rx_of gMT_290 d290_425 rfl,
  fun _ _ _ _ _ _ _ _ _ _ _ _ _ => Rx_of gMT_290 d290_425 rfl,
  fun _ _ _ _ _ _ _ _ _ _ _ _ _ _ => Rx_of gMT_290 d290_426 rfl,
  fun _ _ _ _ _ _ _ _ _ _ _ _ _ _ _ _ => Rx_ald gMT_290 d290_427 rfl rfl,
  fun _ _ _ _ _ _ _ _ _ _ _ _ _ _ => Rx_of gMT_290 d290_428 rfl,
  fun _ _ _ _ _ _ _ _ _ _ _ _ _ _ _ => Rx_of gMT_290 d290_430 rfl,
  fun _ _ _ _ _ _ _ _ _ _ _ _ _ _ _ _ => Rx_of gMT_290 d290_431 rfl,
  fun _ _ _ _ _ _ _ _ _ _ _ _ _ _ _ => Rx_if gMT_290 d290_432 rfl rfl (by decide),
  fun _ _ _ _ _ _ _ _ _ _ _ _ _ _ => Rx_of gMT_290 d290_435 rfl,
  fun _ _ _ _ _ _ _ _ _ _ _ _ _ => (Rx_iret gMT_290 d290_436 rfl rfl).trans (if_pos rfl),
  fun _ _ _ _ _ _ _ _ _ _ _ _ _ => (Rx_iret gMT_290 d290_436 rfl rfl).trans (if_pos rfl),
  fun _ _ _ _ _ _ _ _ _ _ _ _ _ _ => Rx_iret gMT_290 d290_436 rfl rfl,
  fun _ _ _ _ _ _ _ _ _ _ _ _ _ _ => Rx_goto gMT_290 d290_437 rfl (by decide)⟩
theorem QLaw_law_8 : (∀ (E : sV) (d : Nat) (l0 : Option Value) (l2 : Option Value) (l3 : Option Value) (l4 : Option Value) (l5 : Option Value) (l6 : Option Value) (l7 : Option Value) (l8 : Option Value) (l9 : Option Value) (x : Nat) (st : List Value) (σ : sS), Rx E d 290 440 [l0, some (.ref x), l2, l3, l4, l5, l6, l7, l8, l9] st σ = Rx E d 290 441 [l0, some (.ref x), l2, l3, l4, l5, l6, l7, l8, l9] (.ref x :: st) σ) ∧
  (∀ (E : sV) (d : Nat) (l0 : Option Value) (l2 : Option Value) (l3 : Option Value) (l4 : Option Value) (l5 : Option Value) (l6 : Option Value) (l7 : Option Value) (l8 : Option Value) (l9 : Option Value) (st : List Value) (σ : sS), Rx E d 290 440 [l0, some (.null), l2, l3, l4, l5, l6, l7, l8, l9] st σ = Rx E d 290 441 [l0, some (.null), l2, l3, l4, l5, l6, l7, l8, l9] (.null :: st) σ) ∧
  (∀ (E : sV) (d : Nat) (l1 : Option Value) (l2 : Option Value) (l3 : Option Value) (l4 : Option Value) (l5 : Option Value) (l6 : Option Value) (l7 : Option Value) (l8 : Option Value) (l9 : Option Value) (x : Nat) (st : List Value) (σ : sS), Rx E d 290 441 [some (.ref x), l1, l2, l3, l4, l5, l6, l7, l8, l9] st σ = Rx E d 290 442 [some (.ref x), l1, l2, l3, l4, l5, l6, l7, l8, l9] (.ref x :: st) σ) ∧
  (∀ (E : sV) (d : Nat) (l1 : Option Value) (l2 : Option Value) (l3 : Option Value) (l4 : Option Value) (l5 : Option Value) (l6 : Option Value) (l7 : Option Value) (l8 : Option Value) (l9 : Option Value) (st : List Value) (σ : sS), Rx E d 290 441 [some (.null), l1, l2, l3, l4, l5, l6, l7, l8, l9] st σ = Rx E d 290 442 [some (.null), l1, l2, l3, l4, l5, l6, l7, l8, l9] (.null :: st) σ) ∧
  (∀ (E : sV) (d : Nat) (l0 : Option Value) (l1 : Option Value) (l2 : Option Value) (l3 : Option Value) (l4 : Option Value) (l6 : Option Value) (l7 : Option Value) (l8 : Option Value) (l9 : Option Value) (x : Int32) (st : List Value) (σ : sS), Rx E d 290 442 [l0, l1, l2, l3, l4, some (.int x), l6, l7, l8, l9] st σ = Rx E d 290 444 [l0, l1, l2, l3, l4, some (.int x), l6, l7, l8, l9] (.int x :: st) σ) ∧
  (∀ (E : sV) (d : Nat) (l0 l1 l2 l3 l4 l5 l6 l7 l8 l9 : Option Value) (st : List Value) (σ : sS), Rx E d 290 444 [l0, l1, l2, l3, l4, l5, l6, l7, l8, l9] st σ = Rx E d 290 445 [l0, l1, l2, l3, l4, l5, l6, l7, l8, l9] (.int (1) :: st) σ) ∧
  (∀ (E : sV) (d : Nat) (l0 l1 l2 l3 l4 l5 l6 l7 l8 l9 : Option Value) (x y : Int32) (st : List Value) (σ : sS), Rx E d 290 445 [l0, l1, l2, l3, l4, l5, l6, l7, l8, l9] (.int y :: .int x :: st) σ = Rx E d 290 446 [l0, l1, l2, l3, l4, l5, l6, l7, l8, l9] (.int (x + y) :: st) σ) ∧
  (∀ (E : sV) (d : Nat) (l0 l1 l2 l3 l4 l5 l6 l7 l8 l9 : Option Value) (i : Int32) (a : Nat) (st : List Value) (σ : sS), Rx E d 290 446 [l0, l1, l2, l3, l4, l5, l6, l7, l8, l9] (.int i :: .ref a :: st) σ = (aldI .int σ.1 a i).bind (fun v => Rx E d 290 447 [l0, l1, l2, l3, l4, l5, l6, l7, l8, l9] (v :: st) σ)) ∧
  (∀ (E : sV) (d : Nat) (l1 : Option Value) (l2 : Option Value) (l3 : Option Value) (l4 : Option Value) (l5 : Option Value) (l6 : Option Value) (l7 : Option Value) (l8 : Option Value) (l9 : Option Value) (x : Nat) (st : List Value) (σ : sS), Rx E d 290 447 [some (.ref x), l1, l2, l3, l4, l5, l6, l7, l8, l9] st σ = Rx E d 290 448 [some (.ref x), l1, l2, l3, l4, l5, l6, l7, l8, l9] (.ref x :: st) σ) ∧
  (∀ (E : sV) (d : Nat) (l1 : Option Value) (l2 : Option Value) (l3 : Option Value) (l4 : Option Value) (l5 : Option Value) (l6 : Option Value) (l7 : Option Value) (l8 : Option Value) (l9 : Option Value) (st : List Value) (σ : sS), Rx E d 290 447 [some (.null), l1, l2, l3, l4, l5, l6, l7, l8, l9] st σ = Rx E d 290 448 [some (.null), l1, l2, l3, l4, l5, l6, l7, l8, l9] (.null :: st) σ) ∧
  (∀ (E : sV) (d : Nat) (l0 : Option Value) (l1 : Option Value) (l2 : Option Value) (l3 : Option Value) (l4 : Option Value) (l6 : Option Value) (l7 : Option Value) (l8 : Option Value) (l9 : Option Value) (x : Int32) (st : List Value) (σ : sS), Rx E d 290 448 [l0, l1, l2, l3, l4, some (.int x), l6, l7, l8, l9] st σ = Rx E d 290 450 [l0, l1, l2, l3, l4, some (.int x), l6, l7, l8, l9] (.int x :: st) σ) ∧
  (∀ (E : sV) (d : Nat) (l0 l1 l2 l3 l4 l5 l6 l7 l8 l9 : Option Value) (st : List Value) (σ : sS), Rx E d 290 450 [l0, l1, l2, l3, l4, l5, l6, l7, l8, l9] st σ = Rx E d 290 451 [l0, l1, l2, l3, l4, l5, l6, l7, l8, l9] (.int (2) :: st) σ) ∧
  (∀ (E : sV) (d : Nat) (l0 l1 l2 l3 l4 l5 l6 l7 l8 l9 : Option Value) (x y : Int32) (st : List Value) (σ : sS), Rx E d 290 451 [l0, l1, l2, l3, l4, l5, l6, l7, l8, l9] (.int y :: .int x :: st) σ = Rx E d 290 452 [l0, l1, l2, l3, l4, l5, l6, l7, l8, l9] (.int (x + y) :: st) σ) ∧
  (∀ (E : sV) (d : Nat) (l0 l1 l2 l3 l4 l5 l6 l7 l8 l9 : Option Value) (i : Int32) (a : Nat) (st : List Value) (σ : sS), Rx E d 290 452 [l0, l1, l2, l3, l4, l5, l6, l7, l8, l9] (.int i :: .ref a :: st) σ = (aldI .int σ.1 a i).bind (fun v => Rx E d 290 453 [l0, l1, l2, l3, l4, l5, l6, l7, l8, l9] (v :: st) σ)) ∧
  (∀ (E : sV) (d : Nat) (l0 : Option Value) (l1 : Option Value) (l2 : Option Value) (l4 : Option Value) (l5 : Option Value) (l6 : Option Value) (l7 : Option Value) (l8 : Option Value) (l9 : Option Value) (x : Nat) (st : List Value) (σ : sS), Rx E d 290 453 [l0, l1, l2, some (.ref x), l4, l5, l6, l7, l8, l9] st σ = Rx E d 290 454 [l0, l1, l2, some (.ref x), l4, l5, l6, l7, l8, l9] (.ref x :: st) σ) ∧
  (∀ (E : sV) (d : Nat) (l0 : Option Value) (l1 : Option Value) (l2 : Option Value) (l4 : Option Value) (l5 : Option Value) (l6 : Option Value) (l7 : Option Value) (l8 : Option Value) (l9 : Option Value) (st : List Value) (σ : sS), Rx E d 290 453 [l0, l1, l2, some (.null), l4, l5, l6, l7, l8, l9] st σ = Rx E d 290 454 [l0, l1, l2, some (.null), l4, l5, l6, l7, l8, l9] (.null :: st) σ) ∧
  (∀ (E : sV) (d : Nat) (l0 l1 l2 l3 l4 l5 l6 l7 l8 l9 : Option Value) (v1 v2 v3 v4 : Value) (st : List Value) (σ : sS), Rx E d 290 454 [l0, l1, l2, l3, l4, l5, l6, l7, l8, l9] (v4 :: v3 :: v2 :: v1 :: st) σ = if cats st ≤ 8 then callK (Mt E d 249 [v1, v2, v3, v4] σ) (fun v σ => Rx E d 290 457 [l0, l1, l2, l3, l4, l5, l6, l7, l8, l9] (v.toList ++ st) σ) else none) ∧
  (∀ (E : sV) (d : Nat) (l0 l1 l2 l3 l4 l5 l6 l7 l8 l9 : Option Value) (x : Int32) (st : List Value) (σ : sS), Rx E d 290 457 [l0, l1, l2, l3, l4, l5, l6, l7, l8, l9] (.int x :: st) σ = Rx E d 290 459 [l0, l1, l2, l3, l4, ldrop l5, some (.int x), l7, l8, l9] st σ) ∧
  (∀ (E : sV) (d : Nat) (l0 : Option Value) (l1 : Option Value) (l3 : Option Value) (l4 : Option Value) (l5 : Option Value) (l6 : Option Value) (l7 : Option Value) (l8 : Option Value) (l9 : Option Value) (x : Nat) (st : List Value) (σ : sS), Rx E d 290 459 [l0, l1, some (.ref x), l3, l4, l5, l6, l7, l8, l9] st σ = Rx E d 290 460 [l0, l1, some (.ref x), l3, l4, l5, l6, l7, l8, l9] (.ref x :: st) σ) ∧
  (∀ (E : sV) (d : Nat) (l0 : Option Value) (l1 : Option Value) (l3 : Option Value) (l4 : Option Value) (l5 : Option Value) (l6 : Option Value) (l7 : Option Value) (l8 : Option Value) (l9 : Option Value) (st : List Value) (σ : sS), Rx E d 290 459 [l0, l1, some (.null), l3, l4, l5, l6, l7, l8, l9] st σ = Rx E d 290 460 [l0, l1, some (.null), l3, l4, l5, l6, l7, l8, l9] (.null :: st) σ) ∧
  (∀ (E : sV) (d : Nat) (l1 : Option Value) (l2 : Option Value) (l3 : Option Value) (l4 : Option Value) (l5 : Option Value) (l6 : Option Value) (l7 : Option Value) (l8 : Option Value) (l9 : Option Value) (x : Nat) (st : List Value) (σ : sS), Rx E d 290 460 [some (.ref x), l1, l2, l3, l4, l5, l6, l7, l8, l9] st σ = Rx E d 290 461 [some (.ref x), l1, l2, l3, l4, l5, l6, l7, l8, l9] (.ref x :: st) σ) ∧
  (∀ (E : sV) (d : Nat) (l1 : Option Value) (l2 : Option Value) (l3 : Option Value) (l4 : Option Value) (l5 : Option Value) (l6 : Option Value) (l7 : Option Value) (l8 : Option Value) (l9 : Option Value) (st : List Value) (σ : sS), Rx E d 290 460 [some (.null), l1, l2, l3, l4, l5, l6, l7, l8, l9] st σ = Rx E d 290 461 [some (.null), l1, l2, l3, l4, l5, l6, l7, l8, l9] (.null :: st) σ) ∧
  (∀ (E : sV) (d : Nat) (l0 : Option Value) (l1 : Option Value) (l2 : Option Value) (l3 : Option Value) (l4 : Option Value) (l6 : Option Value) (l7 : Option Value) (l8 : Option Value) (l9 : Option Value) (x : Int32) (st : List Value) (σ : sS), Rx E d 290 461 [l0, l1, l2, l3, l4, some (.int x), l6, l7, l8, l9] st σ = Rx E d 290 463 [l0, l1, l2, l3, l4, some (.int x), l6, l7, l8, l9] (.int x :: st) σ) ∧
  (∀ (E : sV) (d : Nat) (l0 l1 l2 l3 l4 l5 l6 l7 l8 l9 : Option Value) (st : List Value) (σ : sS), Rx E d 290 463 [l0, l1, l2, l3, l4, l5, l6, l7, l8, l9] st σ = Rx E d 290 464 [l0, l1, l2, l3, l4, l5, l6, l7, l8, l9] (.int (1) :: st) σ) ∧
  (∀ (E : sV) (d : Nat) (l0 l1 l2 l3 l4 l5 l6 l7 l8 l9 : Option Value) (x y : Int32) (st : List Value) (σ : sS), Rx E d 290 464 [l0, l1, l2, l3, l4, l5, l6, l7, l8, l9] (.int y :: .int x :: st) σ = Rx E d 290 465 [l0, l1, l2, l3, l4, l5, l6, l7, l8, l9] (.int (x + y) :: st) σ) ∧
  (∀ (E : sV) (d : Nat) (l0 l1 l2 l3 l4 l5 l6 l7 l8 l9 : Option Value) (i : Int32) (a : Nat) (st : List Value) (σ : sS), Rx E d 290 465 [l0, l1, l2, l3, l4, l5, l6, l7, l8, l9] (.int i :: .ref a :: st) σ = (aldI .int σ.1 a i).bind (fun v => Rx E d 290 466 [l0, l1, l2, l3, l4, l5, l6, l7, l8, l9] (v :: st) σ)) ∧
  (∀ (E : sV) (d : Nat) (l1 : Option Value) (l2 : Option Value) (l3 : Option Value) (l4 : Option Value) (l5 : Option Value) (l6 : Option Value) (l7 : Option Value) (l8 : Option Value) (l9 : Option Value) (x : Nat) (st : List Value) (σ : sS), Rx E d 290 466 [some (.ref x), l1, l2, l3, l4, l5, l6, l7, l8, l9] st σ = Rx E d 290 467 [some (.ref x), l1, l2, l3, l4, l5, l6, l7, l8, l9] (.ref x :: st) σ) ∧
  (∀ (E : sV) (d : Nat) (l1 : Option Value) (l2 : Option Value) (l3 : Option Value) (l4 : Option Value) (l5 : Option Value) (l6 : Option Value) (l7 : Option Value) (l8 : Option Value) (l9 : Option Value) (st : List Value) (σ : sS), Rx E d 290 466 [some (.null), l1, l2, l3, l4, l5, l6, l7, l8, l9] st σ = Rx E d 290 467 [some (.null), l1, l2, l3, l4, l5, l6, l7, l8, l9] (.null :: st) σ) ∧
  (∀ (E : sV) (d : Nat) (l0 : Option Value) (l1 : Option Value) (l2 : Option Value) (l3 : Option Value) (l4 : Option Value) (l6 : Option Value) (l7 : Option Value) (l8 : Option Value) (l9 : Option Value) (x : Int32) (st : List Value) (σ : sS), Rx E d 290 467 [l0, l1, l2, l3, l4, some (.int x), l6, l7, l8, l9] st σ = Rx E d 290 469 [l0, l1, l2, l3, l4, some (.int x), l6, l7, l8, l9] (.int x :: st) σ) ∧
  (∀ (E : sV) (d : Nat) (l0 l1 l2 l3 l4 l5 l6 l7 l8 l9 : Option Value) (st : List Value) (σ : sS), Rx E d 290 469 [l0, l1, l2, l3, l4, l5, l6, l7, l8, l9] st σ = Rx E d 290 470 [l0, l1, l2, l3, l4, l5, l6, l7, l8, l9] (.int (2) :: st) σ) := ⟨fun _ _ _ _ _ _ _ _ _ _ _ _ _ _ => Rx_of gMT_290 d290_440 rfl,
  fun _ _ _ _ _ _ _ _ _ _ _ _ _ => Rx_of gMT_290 d290_440 rfl,
  fun _ _ _ _ _ _ _ _ _ _ _ _ _ _ => Rx_of gMT_290 d290_441 rfl,
  fun _ _ _ _ _ _ _ _ _ _ _ _ _ => Rx_of gMT_290 d290_441 rfl,
  fun _ _ _ _ _ _ _ _ _ _ _ _ _ _ => Rx_of gMT_290 d290_442 rfl,
  fun _ _ _ _ _ _ _ _ _ _ _ _ _ _ => Rx_of gMT_290 d290_444 rfl,
  fun _ _ _ _ _ _ _ _ _ _ _ _ _ _ _ _ => Rx_of gMT_290 d290_445 rfl,
  fun _ _ _ _ _ _ _ _ _ _ _ _ _ _ _ _ => Rx_ald gMT_290 d290_446 rfl rfl,
  fun _ _ _ _ _ _ _ _ _ _ _ _ _ _ => Rx_of gMT_290 d290_447 rfl,
  fun _ _ _ _ _ _ _ _ _ _ _ _ _ => Rx_of gMT_290 d290_447 rfl,
  fun _ _ _ _ _ _ _ _ _ _ _ _ _ _ => Rx_of gMT_290 d290_448 rfl,
  fun _ _ _ _ _ _ _ _ _ _ _ _ _ _ => Rx_of gMT_290 d290_450 rfl,
  fun _ _ _ _ _ _ _ _ _ _ _ _ _ _ _ _ => Rx_of gMT_290 d290_451 rfl,
  fun _ _ _ _ _ _ _ _ _ _ _ _ _ _ _ _ => Rx_ald gMT_290 d290_452 rfl rfl,
  fun _ _ _ _ _ _ _ _ _ _ _ _ _ _ => Rx_of gMT_290 d290_453 rfl,
  fun _ _ _ _ _ _ _ _ _ _ _ _ _ => Rx_of gMT_290 d290_453 rfl,
  fun _ _ _ _ _ _ _ _ _ _ _ _ _ _ _ _ _ _ => Rx_callS gMT_290 d290_454 rfl rfl rfl rfl rfl,
  fun _ _ _ _ _ _ _ _ _ _ _ _ _ _ _ => Rx_of gMT_290 d290_457 rfl,
  fun _ _ _ _ _ _ _ _ _ _ _ _ _ _ => Rx_of gMT_290 d290_459 rfl,
  fun _ _ _ _ _ _ _ _ _ _ _ _ _ => Rx_of gMT_290 d290_459 rfl,
  fun _ _ _ _ _ _ _ _ _ _ _ _ _ _ => Rx_of gMT_290 d290_460 rfl,
  fun _ _ _ _ _ _ _ _ _ _ _ _ _ => Rx_of gMT_290 d290_460 rfl,
  fun _ _ _ _ _ _ _ _ _ _ _ _ _ _ => Rx_of gMT_290 d290_461 rfl,
  fun _ _ _ _ _ _ _ _ _ _ _ _ _ _ => Rx_of gMT_290 d290_463 rfl,
  fun _ _ _ _ _ _ _ _ _ _ _ _ _ _ _ _ => Rx_of gMT_290 d290_464 rfl,
  fun _ _ _ _ _ _ _ _ _ _ _ _ _ _ _ _ => Rx_ald gMT_290 d290_465 rfl rfl,
  fun _ _ _ _ _ _ _ _ _ _ _ _ _ _ => Rx_of gMT_290 d290_466 rfl,
  fun _ _ _ _ _ _ _ _ _ _ _ _ _ => Rx_of gMT_290 d290_466 rfl,
  fun _ _ _ _ _ _ _ _ _ _ _ _ _ _ => Rx_of gMT_290 d290_467 rfl,
  fun _ _ _ _ _ _ _ _ _ _ _ _ _ _ => Rx_of gMT_290 d290_469 rfl⟩
theorem QLaw_law_9 : (∀ (E : sV) (d : Nat) (l0 l1 l2 l3 l4 l5 l6 l7 l8 l9 : Option Value) (x y : Int32) (st : List Value) (σ : sS), Rx E d 290 470 [l0, l1, l2, l3, l4, l5, l6, l7, l8, l9] (.int y :: .int x :: st) σ = Rx E d 290 471 [l0, l1, l2, l3, l4, l5, l6, l7, l8, l9] (.int (x + y) :: st) σ) ∧
  (∀ (E : sV) (d : Nat) (l0 l1 l2 l3 l4 l5 l6 l7 l8 l9 : Option Value) (i : Int32) (a : Nat) (st : List Value) (σ : sS), Rx E d 290 471 [l0, l1, l2, l3, l4, l5, l6, l7, l8, l9] (.int i :: .ref a :: st) σ = (aldI .int σ.1 a i).bind (fun v => Rx E d 290 472 [l0, l1, l2, l3, l4, l5, l6, l7, l8, l9] (v :: st) σ)) ∧
  (∀ (E : sV) (d : Nat) (l0 l1 l2 l3 l4 l5 l6 l7 l8 l9 : Option Value) (v1 v2 : Value) (b : Nat) (st : List Value) (σ : sS), Rx E d 290 472 [l0, l1, l2, l3, l4, l5, l6, l7, l8, l9] (v2 :: v1 :: .ref b :: st) σ = if cats st ≤ 8 ∧ isOb σ.1 b 8 = true then callK (Mt E d 143 [.ref b, v1, v2] σ) (fun v σ => Rx E d 290 475 [l0, l1, l2, l3, l4, l5, l6, l7, l8, l9] (v.toList ++ st) σ) else none) ∧
  (∀ (E : sV) (d : Nat) (l0 l1 l2 l3 l4 l5 l6 l7 l8 l9 : Option Value) (x : Int32) (st : List Value) (σ : sS), Rx E d 290 475 [l0, l1, l2, l3, l4, l5, l6, l7, l8, l9] (.int x :: st) σ = Rx E d 290 477 [l0, l1, l2, l3, l4, l5, ldrop l6, some (.int x), l8, l9] st σ) ∧
  (∀ (E : sV) (d : Nat) (l0 : Option Value) (l1 : Option Value) (l3 : Option Value) (l4 : Option Value) (l5 : Option Value) (l6 : Option Value) (l7 : Option Value) (l8 : Option Value) (l9 : Option Value) (x : Nat) (st : List Value) (σ : sS), Rx E d 290 477 [l0, l1, some (.ref x), l3, l4, l5, l6, l7, l8, l9] st σ = Rx E d 290 478 [l0, l1, some (.ref x), l3, l4, l5, l6, l7, l8, l9] (.ref x :: st) σ) ∧
  (∀ (E : sV) (d : Nat) (l0 : Option Value) (l1 : Option Value) (l3 : Option Value) (l4 : Option Value) (l5 : Option Value) (l6 : Option Value) (l7 : Option Value) (l8 : Option Value) (l9 : Option Value) (st : List Value) (σ : sS), Rx E d 290 477 [l0, l1, some (.null), l3, l4, l5, l6, l7, l8, l9] st σ = Rx E d 290 478 [l0, l1, some (.null), l3, l4, l5, l6, l7, l8, l9] (.null :: st) σ) ∧
  (∀ (E : sV) (d : Nat) (l0 l1 l2 l3 l4 l5 l6 l7 l8 l9 : Option Value) (b : Nat) (st : List Value) (σ : sS), Rx E d 290 478 [l0, l1, l2, l3, l4, l5, l6, l7, l8, l9] (.ref b :: st) σ = if cats st ≤ 8 ∧ isOb σ.1 b 8 = true then callK (Mt E d 128 [.ref b] σ) (fun v σ => Rx E d 290 481 [l0, l1, l2, l3, l4, l5, l6, l7, l8, l9] (v.toList ++ st) σ) else none) ∧
  (∀ (E : sV) (d : Nat) (l0 : Option Value) (l1 : Option Value) (l2 : Option Value) (l3 : Option Value) (l4 : Option Value) (l5 : Option Value) (l7 : Option Value) (l8 : Option Value) (l9 : Option Value) (x : Int32) (st : List Value) (σ : sS), Rx E d 290 481 [l0, l1, l2, l3, l4, l5, some (.int x), l7, l8, l9] st σ = Rx E d 290 483 [l0, l1, l2, l3, l4, l5, some (.int x), l7, l8, l9] (.int x :: st) σ) ∧
  (∀ (E : sV) (d : Nat) (l0 l1 l2 l3 l4 l5 l6 l7 l8 l9 : Option Value) (x y : Int32) (st : List Value) (σ : sS), Rx E d 290 483 [l0, l1, l2, l3, l4, l5, l6, l7, l8, l9] (.int y :: .int x :: st) σ = if x = y then Rx E d 290 488 [l0, l1, l2, l3, l4, l5, l6, l7, l8, l9] st σ else Rx E d 290 486 [l0, l1, l2, l3, l4, l5, l6, l7, l8, l9] st σ) ∧
  (∀ (E : sV) (d : Nat) (l0 l1 l2 l3 l4 l5 l6 l7 l8 l9 : Option Value) (st : List Value) (σ : sS), Rx E d 290 486 [l0, l1, l2, l3, l4, l5, l6, l7, l8, l9] st σ = Rx E d 290 487 [l0, l1, l2, l3, l4, l5, l6, l7, l8, l9] (.int (0) :: st) σ) ∧
  (∀ (E : sV) (d : Nat) (l0 l1 l2 l3 l4 l5 l6 l7 l8 l9 : Option Value) (σ : sS), Rx E d 290 487 [l0, l1, l2, l3, l4, l5, l6, l7, l8, l9] [.int 0] σ = some (.inl (some (.int 0)), σ)) ∧
  (∀ (E : sV) (d : Nat) (l0 l1 l2 l3 l4 l5 l6 l7 l8 l9 : Option Value) (σ : sS), Rx E d 290 487 [l0, l1, l2, l3, l4, l5, l6, l7, l8, l9] [.int 1] σ = some (.inl (some (.int 1)), σ)) ∧
  (∀ (E : sV) (d : Nat) (l0 l1 l2 l3 l4 l5 l6 l7 l8 l9 : Option Value) (v : Int32) (σ : sS), Rx E d 290 487 [l0, l1, l2, l3, l4, l5, l6, l7, l8, l9] [.int v] σ = if narrow .boolean (.int v) = .int v then some (.inl (some (.int v)), σ) else none) ∧
  (∀ (E : sV) (d : Nat) (l0 : Option Value) (l1 : Option Value) (l2 : Option Value) (l3 : Option Value) (l4 : Option Value) (l5 : Option Value) (l7 : Option Value) (l8 : Option Value) (l9 : Option Value) (x : Int32) (st : List Value) (σ : sS), Rx E d 290 488 [l0, l1, l2, l3, l4, l5, some (.int x), l7, l8, l9] st σ = Rx E d 290 490 [l0, l1, l2, l3, l4, l5, some (.int x), l7, l8, l9] (.int x :: st) σ) ∧
  (∀ (E : sV) (d : Nat) (l0 l1 l2 l3 l4 l5 l6 l7 l8 l9 : Option Value) (x : Int32) (st : List Value) (σ : sS), Rx E d 290 490 [l0, l1, l2, l3, l4, l5, l6, l7, l8, l9] (.int x :: st) σ = if ¬ x = 0 then Rx E d 290 505 [l0, l1, l2, l3, l4, l5, l6, l7, l8, l9] st σ else Rx E d 290 493 [l0, l1, l2, l3, l4, l5, l6, l7, l8, l9] st σ) ∧
  (∀ (E : sV) (d : Nat) (l0 : Option Value) (l1 : Option Value) (l2 : Option Value) (l4 : Option Value) (l5 : Option Value) (l6 : Option Value) (l7 : Option Value) (l8 : Option Value) (l9 : Option Value) (x : Nat) (st : List Value) (σ : sS), Rx E d 290 493 [l0, l1, l2, some (.ref x), l4, l5, l6, l7, l8, l9] st σ = Rx E d 290 494 [l0, l1, l2, some (.ref x), l4, l5, l6, l7, l8, l9] (.ref x :: st) σ) ∧
  (∀ (E : sV) (d : Nat) (l0 : Option Value) (l1 : Option Value) (l2 : Option Value) (l4 : Option Value) (l5 : Option Value) (l6 : Option Value) (l7 : Option Value) (l8 : Option Value) (l9 : Option Value) (st : List Value) (σ : sS), Rx E d 290 493 [l0, l1, l2, some (.null), l4, l5, l6, l7, l8, l9] st σ = Rx E d 290 494 [l0, l1, l2, some (.null), l4, l5, l6, l7, l8, l9] (.null :: st) σ) ∧
  (∀ (E : sV) (d : Nat) (l0 l1 l2 l3 l4 l5 l6 l7 l8 l9 : Option Value) (st : List Value) (σ : sS), Rx E d 290 494 [l0, l1, l2, l3, l4, l5, l6, l7, l8, l9] st σ = Rx E d 290 495 [l0, l1, l2, l3, l4, l5, l6, l7, l8, l9] (.int (0) :: st) σ) ∧
  (∀ (E : sV) (d : Nat) (l0 l1 l2 l3 l4 l5 l6 l7 l8 l9 : Option Value) (i : Int32) (a : Nat) (st : List Value) (σ : sS), Rx E d 290 495 [l0, l1, l2, l3, l4, l5, l6, l7, l8, l9] (.int i :: .ref a :: st) σ = (aldL σ.1 a i).bind (fun v => Rx E d 290 496 [l0, l1, l2, l3, l4, l5, l6, l7, l8, l9] (v :: st) σ)) ∧
  (∀ (E : sV) (d : Nat) (l0 : Option Value) (l1 : Option Value) (l2 : Option Value) (l3 : Option Value) (l4 : Option Value) (l5 : Option Value) (l6 : Option Value) (l8 : Option Value) (l9 : Option Value) (x : Int32) (st : List Value) (σ : sS), Rx E d 290 496 [l0, l1, l2, l3, l4, l5, l6, some (.int x), l8, l9] st σ = Rx E d 290 498 [l0, l1, l2, l3, l4, l5, l6, some (.int x), l8, l9] (.int x :: st) σ) ∧
  (∀ (E : sV) (d : Nat) (l0 l1 l2 l3 l4 l5 l6 l7 l8 l9 : Option Value) (x : Int32) (st : List Value) (σ : sS), Rx E d 290 498 [l0, l1, l2, l3, l4, l5, l6, l7, l8, l9] (.int x :: st) σ = Rx E d 290 499 [l0, l1, l2, l3, l4, l5, l6, l7, l8, l9] (.long x.toInt64 :: st) σ) ∧
  (∀ (E : sV) (d : Nat) (l0 l1 l2 l3 l4 l5 l6 l7 l8 l9 : Option Value) (x y : Int64) (st : List Value) (σ : sS), Rx E d 290 499 [l0, l1, l2, l3, l4, l5, l6, l7, l8, l9] (.long y :: .long x :: st) σ = Rx E d 290 500 [l0, l1, l2, l3, l4, l5, l6, l7, l8, l9] (.int (lg_cmp x y) :: st) σ) ∧
  (∀ (E : sV) (d : Nat) (l0 l1 l2 l3 l4 l5 l6 l7 l8 l9 : Option Value) (x : Int32) (st : List Value) (σ : sS), Rx E d 290 500 [l0, l1, l2, l3, l4, l5, l6, l7, l8, l9] (.int x :: st) σ = if x = 0 then Rx E d 290 505 [l0, l1, l2, l3, l4, l5, l6, l7, l8, l9] st σ else Rx E d 290 503 [l0, l1, l2, l3, l4, l5, l6, l7, l8, l9] st σ) ∧
  (∀ (E : sV) (d : Nat) (l0 l1 l2 l3 l4 l5 l6 l7 l8 l9 : Option Value) (st : List Value) (σ : sS), Rx E d 290 503 [l0, l1, l2, l3, l4, l5, l6, l7, l8, l9] st σ = Rx E d 290 504 [l0, l1, l2, l3, l4, l5, l6, l7, l8, l9] (.int (0) :: st) σ) ∧
  (∀ (E : sV) (d : Nat) (l0 l1 l2 l3 l4 l5 l6 l7 l8 l9 : Option Value) (σ : sS), Rx E d 290 504 [l0, l1, l2, l3, l4, l5, l6, l7, l8, l9] [.int 0] σ = some (.inl (some (.int 0)), σ)) ∧
  (∀ (E : sV) (d : Nat) (l0 l1 l2 l3 l4 l5 l6 l7 l8 l9 : Option Value) (σ : sS), Rx E d 290 504 [l0, l1, l2, l3, l4, l5, l6, l7, l8, l9] [.int 1] σ = some (.inl (some (.int 1)), σ)) ∧
  (∀ (E : sV) (d : Nat) (l0 l1 l2 l3 l4 l5 l6 l7 l8 l9 : Option Value) (v : Int32) (σ : sS), Rx E d 290 504 [l0, l1, l2, l3, l4, l5, l6, l7, l8, l9] [.int v] σ = if narrow .boolean (.int v) = .int v then some (.inl (some (.int v)), σ) else none) ∧
  (∀ (E : sV) (d : Nat) (l0 l1 l2 l3 l4 l5 l6 l7 l8 l9 : Option Value) (st : List Value) (σ : sS), Rx E d 290 505 [l0, l1, l2, l3, l4, l5, l6, l7, l8, l9] st σ = Rx E d 290 3001 [l0, l1, l2, l3, l4, l5, l6, l7, l8, l9] st σ) ∧
  (∀ (E : sV) (d : Nat) (l0 : Option Value) (l2 : Option Value) (l3 : Option Value) (l4 : Option Value) (l5 : Option Value) (l6 : Option Value) (l7 : Option Value) (l8 : Option Value) (l9 : Option Value) (x : Nat) (st : List Value) (σ : sS), Rx E d 290 508 [l0, some (.ref x), l2, l3, l4, l5, l6, l7, l8, l9] st σ = Rx E d 290 509 [l0, some (.ref x), l2, l3, l4, l5, l6, l7, l8, l9] (.ref x :: st) σ) ∧
  (∀ (E : sV) (d : Nat) (l0 : Option Value) (l2 : Option Value) (l3 : Option Value) (l4 : Option Value) (l5 : Option Value) (l6 : Option Value) (l7 : Option Value) (l8 : Option Value) (l9 : Option Value) (st : List Value) (σ : sS), Rx E d 290 508 [l0, some (.null), l2, l3, l4, l5, l6, l7, l8, l9] st σ = Rx E d 290 509 [l0, some (.null), l2, l3, l4, l5, l6, l7, l8, l9] (.null :: st) σ) := ⟨fun _ _ _ _ _ _ _ _ _ _ _ _ _ _ _ _ => Rx_of gMT_290 d290_470 rfl,
  fun _ _ _ _ _ _ _ _ _ _ _ _ _ _ _ _ => Rx_ald gMT_290 d290_471 rfl rfl,
  fun _ _ _ _ _ _ _ _ _ _ _ _ _ _ _ _ _ => Rx_callV gMT_290 d290_472 rfl rfl rfl rfl rfl,
  fun _ _ _ _ _ _ _ _ _ _ _ _ _ _ _ => Rx_of gMT_290 d290_475 rfl,
  fun _ _ _ _ _ _ _ _ _ _ _ _ _ _ => Rx_of gMT_290 d290_477 rfl,
  fun _ _ _ _ _ _ _ _ _ _ _ _ _ => Rx_of gMT_290 d290_477 rfl,
  fun _ _ _ _ _ _ _ _ _ _ _ _ _ _ _ => Rx_callV gMT_290 d290_478 rfl rfl rfl rfl rfl,
  fun _ _ _ _ _ _ _ _ _ _ _ _ _ _ => Rx_of gMT_290 d290_481 rfl,
  fun _ _ _ _ _ _ _ _ _ _ _ _ _ _ _ _ => Rx_icmp gMT_290 d290_483 rfl rfl (by decide),
  fun _ _ _ _ _ _ _ _ _ _ _ _ _ _ => Rx_of gMT_290 d290_486 rfl,
  fun _ _ _ _ _ _ _ _ _ _ _ _ _ => (Rx_iret gMT_290 d290_487 rfl rfl).trans (if_pos rfl),
  fun _ _ _ _ _ _ _ _ _ _ _ _ _ => (Rx_iret gMT_290 d290_487 rfl rfl).trans (if_pos rfl),
  fun _ _ _ _ _ _ _ _ _ _ _ _ _ _ => Rx_iret gMT_290 d290_487 rfl rfl,
  fun _ _ _ _ _ _ _ _ _ _ _ _ _ _ => Rx_of gMT_290 d290_488 rfl,
  fun _ _ _ _ _ _ _ _ _ _ _ _ _ _ _ => Rx_if gMT_290 d290_490 rfl rfl (by decide),
  fun _ _ _ _ _ _ _ _ _ _ _ _ _ _ => Rx_of gMT_290 d290_493 rfl,
  fun _ _ _ _ _ _ _ _ _ _ _ _ _ => Rx_of gMT_290 d290_493 rfl,
  fun _ _ _ _ _ _ _ _ _ _ _ _ _ _ => Rx_of gMT_290 d290_494 rfl,
  fun _ _ _ _ _ _ _ _ _ _ _ _ _ _ _ _ => Rx_ald gMT_290 d290_495 rfl rfl,
  fun _ _ _ _ _ _ _ _ _ _ _ _ _ _ => Rx_of gMT_290 d290_496 rfl,
  fun _ _ _ _ _ _ _ _ _ _ _ _ _ _ _ => Rx_of gMT_290 d290_498 rfl,
  fun _ _ _ _ _ _ _ _ _ _ _ _ _ _ _ _ => Rx_of gMT_290 d290_499 rfl,
  fun _ _ _ _ _ _ _ _ _ _ _ _ _ _ _ => Rx_if gMT_290 d290_500 rfl rfl (by decide),
  fun _ _ _ _ _ _ _ _ _ _ _ _ _ _ => Rx_of gMT_290 d290_503 rfl,
  fun _ _ _ _ _ _ _ _ _ _ _ _ _ => (Rx_iret gMT_290 d290_504 rfl rfl).trans (if_pos rfl),
  fun _ _ _ _ _ _ _ _ _ _ _ _ _ => (Rx_iret gMT_290 d290_504 rfl rfl).trans (if_pos rfl),
  fun _ _ _ _ _ _ _ _ _ _ _ _ _ _ => Rx_iret gMT_290 d290_504 rfl rfl,
  fun _ _ _ _ _ _ _ _ _ _ _ _ _ _ => Rx_goto gMT_290 d290_505 rfl (by decide),
  fun _ _ _ _ _ _ _ _ _ _ _ _ _ _ => Rx_of gMT_290 d290_508 rfl,
  fun _ _ _ _ _ _ _ _ _ _ _ _ _ => Rx_of gMT_290 d290_508 rfl⟩
theorem QLaw_law_10 : (∀ (E : sV) (d : Nat) (l1 : Option Value) (l2 : Option Value) (l3 : Option Value) (l4 : Option Value) (l5 : Option Value) (l6 : Option Value) (l7 : Option Value) (l8 : Option Value) (l9 : Option Value) (x : Nat) (st : List Value) (σ : sS), Rx E d 290 509 [some (.ref x), l1, l2, l3, l4, l5, l6, l7, l8, l9] st σ = Rx E d 290 510 [some (.ref x), l1, l2, l3, l4, l5, l6, l7, l8, l9] (.ref x :: st) σ) ∧
  (∀ (E : sV) (d : Nat) (l1 : Option Value) (l2 : Option Value) (l3 : Option Value) (l4 : Option Value) (l5 : Option Value) (l6 : Option Value) (l7 : Option Value) (l8 : Option Value) (l9 : Option Value) (st : List Value) (σ : sS), Rx E d 290 509 [some (.null), l1, l2, l3, l4, l5, l6, l7, l8, l9] st σ = Rx E d 290 510 [some (.null), l1, l2, l3, l4, l5, l6, l7, l8, l9] (.null :: st) σ) ∧
  (∀ (E : sV) (d : Nat) (l0 : Option Value) (l1 : Option Value) (l2 : Option Value) (l3 : Option Value) (l4 : Option Value) (l6 : Option Value) (l7 : Option Value) (l8 : Option Value) (l9 : Option Value) (x : Int32) (st : List Value) (σ : sS), Rx E d 290 510 [l0, l1, l2, l3, l4, some (.int x), l6, l7, l8, l9] st σ = Rx E d 290 512 [l0, l1, l2, l3, l4, some (.int x), l6, l7, l8, l9] (.int x :: st) σ) ∧
  (∀ (E : sV) (d : Nat) (l0 l1 l2 l3 l4 l5 l6 l7 l8 l9 : Option Value) (st : List Value) (σ : sS), Rx E d 290 512 [l0, l1, l2, l3, l4, l5, l6, l7, l8, l9] st σ = Rx E d 290 513 [l0, l1, l2, l3, l4, l5, l6, l7, l8, l9] (.int (1) :: st) σ) ∧
  (∀ (E : sV) (d : Nat) (l0 l1 l2 l3 l4 l5 l6 l7 l8 l9 : Option Value) (x y : Int32) (st : List Value) (σ : sS), Rx E d 290 513 [l0, l1, l2, l3, l4, l5, l6, l7, l8, l9] (.int y :: .int x :: st) σ = Rx E d 290 514 [l0, l1, l2, l3, l4, l5, l6, l7, l8, l9] (.int (x + y) :: st) σ) ∧
  (∀ (E : sV) (d : Nat) (l0 l1 l2 l3 l4 l5 l6 l7 l8 l9 : Option Value) (i : Int32) (a : Nat) (st : List Value) (σ : sS), Rx E d 290 514 [l0, l1, l2, l3, l4, l5, l6, l7, l8, l9] (.int i :: .ref a :: st) σ = (aldI .int σ.1 a i).bind (fun v => Rx E d 290 515 [l0, l1, l2, l3, l4, l5, l6, l7, l8, l9] (v :: st) σ)) ∧
  (∀ (E : sV) (d : Nat) (l0 : Option Value) (l1 : Option Value) (l2 : Option Value) (l4 : Option Value) (l5 : Option Value) (l6 : Option Value) (l7 : Option Value) (l8 : Option Value) (l9 : Option Value) (x : Nat) (st : List Value) (σ : sS), Rx E d 290 515 [l0, l1, l2, some (.ref x), l4, l5, l6, l7, l8, l9] st σ = Rx E d 290 516 [l0, l1, l2, some (.ref x), l4, l5, l6, l7, l8, l9] (.ref x :: st) σ) ∧
  (∀ (E : sV) (d : Nat) (l0 : Option Value) (l1 : Option Value) (l2 : Option Value) (l4 : Option Value) (l5 : Option Value) (l6 : Option Value) (l7 : Option Value) (l8 : Option Value) (l9 : Option Value) (st : List Value) (σ : sS), Rx E d 290 515 [l0, l1, l2, some (.null), l4, l5, l6, l7, l8, l9] st σ = Rx E d 290 516 [l0, l1, l2, some (.null), l4, l5, l6, l7, l8, l9] (.null :: st) σ) ∧
  (∀ (E : sV) (d : Nat) (l0 l1 l2 l3 l4 l5 l6 l7 l8 l9 : Option Value) (v1 v2 v3 : Value) (st : List Value) (σ : sS), Rx E d 290 516 [l0, l1, l2, l3, l4, l5, l6, l7, l8, l9] (v3 :: v2 :: v1 :: st) σ = if cats st ≤ 8 then callK (Mt E d 250 [v1, v2, v3] σ) (fun v σ => Rx E d 290 519 [l0, l1, l2, l3, l4, l5, l6, l7, l8, l9] (v.toList ++ st) σ) else none) ∧
  (∀ (E : sV) (d : Nat) (l0 l1 l2 l3 l4 l5 l6 l7 l8 l9 : Option Value) (x : Int32) (st : List Value) (σ : sS), Rx E d 290 519 [l0, l1, l2, l3, l4, l5, l6, l7, l8, l9] (.int x :: st) σ = Rx E d 290 521 [l0, l1, l2, l3, l4, ldrop l5, some (.int x), l7, l8, l9] st σ) ∧
  (∀ (E : sV) (d : Nat) (l0 : Option Value) (l1 : Option Value) (l3 : Option Value) (l4 : Option Value) (l5 : Option Value) (l6 : Option Value) (l7 : Option Value) (l8 : Option Value) (l9 : Option Value) (x : Nat) (st : List Value) (σ : sS), Rx E d 290 521 [l0, l1, some (.ref x), l3, l4, l5, l6, l7, l8, l9] st σ = Rx E d 290 522 [l0, l1, some (.ref x), l3, l4, l5, l6, l7, l8, l9] (.ref x :: st) σ) ∧
  (∀ (E : sV) (d : Nat) (l0 : Option Value) (l1 : Option Value) (l3 : Option Value) (l4 : Option Value) (l5 : Option Value) (l6 : Option Value) (l7 : Option Value) (l8 : Option Value) (l9 : Option Value) (st : List Value) (σ : sS), Rx E d 290 521 [l0, l1, some (.null), l3, l4, l5, l6, l7, l8, l9] st σ = Rx E d 290 522 [l0, l1, some (.null), l3, l4, l5, l6, l7, l8, l9] (.null :: st) σ) ∧
  (∀ (E : sV) (d : Nat) (l1 : Option Value) (l2 : Option Value) (l3 : Option Value) (l4 : Option Value) (l5 : Option Value) (l6 : Option Value) (l7 : Option Value) (l8 : Option Value) (l9 : Option Value) (x : Nat) (st : List Value) (σ : sS), Rx E d 290 522 [some (.ref x), l1, l2, l3, l4, l5, l6, l7, l8, l9] st σ = Rx E d 290 523 [some (.ref x), l1, l2, l3, l4, l5, l6, l7, l8, l9] (.ref x :: st) σ) ∧
  (∀ (E : sV) (d : Nat) (l1 : Option Value) (l2 : Option Value) (l3 : Option Value) (l4 : Option Value) (l5 : Option Value) (l6 : Option Value) (l7 : Option Value) (l8 : Option Value) (l9 : Option Value) (st : List Value) (σ : sS), Rx E d 290 522 [some (.null), l1, l2, l3, l4, l5, l6, l7, l8, l9] st σ = Rx E d 290 523 [some (.null), l1, l2, l3, l4, l5, l6, l7, l8, l9] (.null :: st) σ) ∧
  (∀ (E : sV) (d : Nat) (l0 : Option Value) (l1 : Option Value) (l2 : Option Value) (l3 : Option Value) (l4 : Option Value) (l6 : Option Value) (l7 : Option Value) (l8 : Option Value) (l9 : Option Value) (x : Int32) (st : List Value) (σ : sS), Rx E d 290 523 [l0, l1, l2, l3, l4, some (.int x), l6, l7, l8, l9] st σ = Rx E d 290 525 [l0, l1, l2, l3, l4, some (.int x), l6, l7, l8, l9] (.int x :: st) σ) ∧
  (∀ (E : sV) (d : Nat) (l0 l1 l2 l3 l4 l5 l6 l7 l8 l9 : Option Value) (st : List Value) (σ : sS), Rx E d 290 525 [l0, l1, l2, l3, l4, l5, l6, l7, l8, l9] st σ = Rx E d 290 526 [l0, l1, l2, l3, l4, l5, l6, l7, l8, l9] (.int (1) :: st) σ) ∧
  (∀ (E : sV) (d : Nat) (l0 l1 l2 l3 l4 l5 l6 l7 l8 l9 : Option Value) (x y : Int32) (st : List Value) (σ : sS), Rx E d 290 526 [l0, l1, l2, l3, l4, l5, l6, l7, l8, l9] (.int y :: .int x :: st) σ = Rx E d 290 527 [l0, l1, l2, l3, l4, l5, l6, l7, l8, l9] (.int (x + y) :: st) σ) ∧
  (∀ (E : sV) (d : Nat) (l0 l1 l2 l3 l4 l5 l6 l7 l8 l9 : Option Value) (i : Int32) (a : Nat) (st : List Value) (σ : sS), Rx E d 290 527 [l0, l1, l2, l3, l4, l5, l6, l7, l8, l9] (.int i :: .ref a :: st) σ = (aldI .int σ.1 a i).bind (fun v => Rx E d 290 528 [l0, l1, l2, l3, l4, l5, l6, l7, l8, l9] (v :: st) σ)) ∧
  (∀ (E : sV) (d : Nat) (l0 l1 l2 l3 l4 l5 l6 l7 l8 l9 : Option Value) (v1 : Value) (b : Nat) (st : List Value) (σ : sS), Rx E d 290 528 [l0, l1, l2, l3, l4, l5, l6, l7, l8, l9] (v1 :: .ref b :: st) σ = if cats st ≤ 8 ∧ isOb σ.1 b 8 = true then callK (Mt E d 148 [.ref b, v1] σ) (fun v σ => Rx E d 290 531 [l0, l1, l2, l3, l4, l5, l6, l7, l8, l9] (v.toList ++ st) σ) else none) ∧
  (∀ (E : sV) (d : Nat) (l0 l1 l2 l3 l4 l5 l6 l7 l8 l9 : Option Value) (x : Int32) (st : List Value) (σ : sS), Rx E d 290 531 [l0, l1, l2, l3, l4, l5, l6, l7, l8, l9] (.int x :: st) σ = Rx E d 290 533 [l0, l1, l2, l3, l4, l5, ldrop l6, some (.int x), l8, l9] st σ) ∧
  (∀ (E : sV) (d : Nat) (l0 : Option Value) (l1 : Option Value) (l3 : Option Value) (l4 : Option Value) (l5 : Option Value) (l6 : Option Value) (l7 : Option Value) (l8 : Option Value) (l9 : Option Value) (x : Nat) (st : List Value) (σ : sS), Rx E d 290 533 [l0, l1, some (.ref x), l3, l4, l5, l6, l7, l8, l9] st σ = Rx E d 290 534 [l0, l1, some (.ref x), l3, l4, l5, l6, l7, l8, l9] (.ref x :: st) σ) ∧
  (∀ (E : sV) (d : Nat) (l0 : Option Value) (l1 : Option Value) (l3 : Option Value) (l4 : Option Value) (l5 : Option Value) (l6 : Option Value) (l7 : Option Value) (l8 : Option Value) (l9 : Option Value) (st : List Value) (σ : sS), Rx E d 290 533 [l0, l1, some (.null), l3, l4, l5, l6, l7, l8, l9] st σ = Rx E d 290 534 [l0, l1, some (.null), l3, l4, l5, l6, l7, l8, l9] (.null :: st) σ) ∧
  (∀ (E : sV) (d : Nat) (l0 l1 l2 l3 l4 l5 l6 l7 l8 l9 : Option Value) (b : Nat) (st : List Value) (σ : sS), Rx E d 290 534 [l0, l1, l2, l3, l4, l5, l6, l7, l8, l9] (.ref b :: st) σ = if cats st ≤ 8 ∧ isOb σ.1 b 8 = true then callK (Mt E d 128 [.ref b] σ) (fun v σ => Rx E d 290 537 [l0, l1, l2, l3, l4, l5, l6, l7, l8, l9] (v.toList ++ st) σ) else none) ∧
  (∀ (E : sV) (d : Nat) (l0 : Option Value) (l1 : Option Value) (l2 : Option Value) (l3 : Option Value) (l4 : Option Value) (l5 : Option Value) (l7 : Option Value) (l8 : Option Value) (l9 : Option Value) (x : Int32) (st : List Value) (σ : sS), Rx E d 290 537 [l0, l1, l2, l3, l4, l5, some (.int x), l7, l8, l9] st σ = Rx E d 290 539 [l0, l1, l2, l3, l4, l5, some (.int x), l7, l8, l9] (.int x :: st) σ) ∧
  (∀ (E : sV) (d : Nat) (l0 l1 l2 l3 l4 l5 l6 l7 l8 l9 : Option Value) (x y : Int32) (st : List Value) (σ : sS), Rx E d 290 539 [l0, l1, l2, l3, l4, l5, l6, l7, l8, l9] (.int y :: .int x :: st) σ = if x = y then Rx E d 290 544 [l0, l1, l2, l3, l4, l5, l6, l7, l8, l9] st σ else Rx E d 290 542 [l0, l1, l2, l3, l4, l5, l6, l7, l8, l9] st σ) ∧
  (∀ (E : sV) (d : Nat) (l0 l1 l2 l3 l4 l5 l6 l7 l8 l9 : Option Value) (st : List Value) (σ : sS), Rx E d 290 542 [l0, l1, l2, l3, l4, l5, l6, l7, l8, l9] st σ = Rx E d 290 543 [l0, l1, l2, l3, l4, l5, l6, l7, l8, l9] (.int (0) :: st) σ) ∧
  (∀ (E : sV) (d : Nat) (l0 l1 l2 l3 l4 l5 l6 l7 l8 l9 : Option Value) (σ : sS), Rx E d 290 543 [l0, l1, l2, l3, l4, l5, l6, l7, l8, l9] [.int 0] σ = some (.inl (some (.int 0)), σ)) ∧
  (∀ (E : sV) (d : Nat) (l0 l1 l2 l3 l4 l5 l6 l7 l8 l9 : Option Value) (σ : sS), Rx E d 290 543 [l0, l1, l2, l3, l4, l5, l6, l7, l8, l9] [.int 1] σ = some (.inl (some (.int 1)), σ)) ∧
  (∀ (E : sV) (d : Nat) (l0 l1 l2 l3 l4 l5 l6 l7 l8 l9 : Option Value) (v : Int32) (σ : sS), Rx E d 290 543 [l0, l1, l2, l3, l4, l5, l6, l7, l8, l9] [.int v] σ = if narrow .boolean (.int v) = .int v then some (.inl (some (.int v)), σ) else none) ∧
  (∀ (E : sV) (d : Nat) (l0 : Option Value) (l1 : Option Value) (l2 : Option Value) (l3 : Option Value) (l4 : Option Value) (l5 : Option Value) (l7 : Option Value) (l8 : Option Value) (l9 : Option Value) (x : Int32) (st : List Value) (σ : sS), Rx E d 290 544 [l0, l1, l2, l3, l4, l5, some (.int x), l7, l8, l9] st σ = Rx E d 290 546 [l0, l1, l2, l3, l4, l5, some (.int x), l7, l8, l9] (.int x :: st) σ) := ⟨fun _ _ _ _ _ _ _ _ _ _ _ _ _ _ => Rx_of gMT_290 d290_509 rfl,
  fun _ _ _ _ _ _ _ _ _ _ _ _ _ => Rx_of gMT_290 d290_509 rfl,
  fun _ _ _ _ _ _ _ _ _ _ _ _ _ _ => Rx_of gMT_290 d290_510 rfl,
  fun _ _ _ _ _ _ _ _ _ _ _ _ _ _ => Rx_of gMT_290 d290_512 rfl,
  fun _ _ _ _ _ _ _ _ _ _ _ _ _ _ _ _ => Rx_of gMT_290 d290_513 rfl,
  fun _ _ _ _ _ _ _ _ _ _ _ _ _ _ _ _ => Rx_ald gMT_290 d290_514 rfl rfl,
  fun _ _ _ _ _ _ _ _ _ _ _ _ _ _ => Rx_of gMT_290 d290_515 rfl,
  fun _ _ _ _ _ _ _ _ _ _ _ _ _ => Rx_of gMT_290 d290_515 rfl,
  fun _ _ _ _ _ _ _ _ _ _ _ _ _ _ _ _ _ => Rx_callS gMT_290 d290_516 rfl rfl rfl rfl rfl,
  fun _ _ _ _ _ _ _ _ _ _ _ _ _ _ _ => Rx_of gMT_290 d290_519 rfl,
  fun _ _ _ _ _ _ _ _ _ _ _ _ _ _ => Rx_of gMT_290 d290_521 rfl,
  fun _ _ _ _ _ _ _ _ _ _ _ _ _ => Rx_of gMT_290 d290_521 rfl,
  fun _ _ _ _ _ _ _ _ _ _ _ _ _ _ => Rx_of gMT_290 d290_522 rfl,
  fun _ _ _ _ _ _ _ _ _ _ _ _ _ => Rx_of gMT_290 d290_522 rfl,
  fun _ _ _ _ _ _ _ _ _ _ _ _ _ _ => Rx_of gMT_290 d290_523 rfl,
  fun _ _ _ _ _ _ _ _ _ _ _ _ _ _ => Rx_of gMT_290 d290_525 rfl,
  fun _ _ _ _ _ _ _ _ _ _ _ _ _ _ _ _ => Rx_of gMT_290 d290_526 rfl,
  fun _ _ _ _ _ _ _ _ _ _ _ _ _ _ _ _ => Rx_ald gMT_290 d290_527 rfl rfl,
  fun _ _ _ _ _ _ _ _ _ _ _ _ _ _ _ _ => Rx_callV gMT_290 d290_528 rfl rfl rfl rfl rfl,
  fun _ _ _ _ _ _ _ _ _ _ _ _ _ _ _ => Rx_of gMT_290 d290_531 rfl,
  fun _ _ _ _ _ _ _ _ _ _ _ _ _ _ => Rx_of gMT_290 d290_533 rfl,
  fun _ _ _ _ _ _ _ _ _ _ _ _ _ => Rx_of gMT_290 d290_533 rfl,
  fun _ _ _ _ _ _ _ _ _ _ _ _ _ _ _ => Rx_callV gMT_290 d290_534 rfl rfl rfl rfl rfl,
  fun _ _ _ _ _ _ _ _ _ _ _ _ _ _ => Rx_of gMT_290 d290_537 rfl,
  fun _ _ _ _ _ _ _ _ _ _ _ _ _ _ _ _ => Rx_icmp gMT_290 d290_539 rfl rfl (by decide),
  fun _ _ _ _ _ _ _ _ _ _ _ _ _ _ => Rx_of gMT_290 d290_542 rfl,
  fun _ _ _ _ _ _ _ _ _ _ _ _ _ => (Rx_iret gMT_290 d290_543 rfl rfl).trans (if_pos rfl),
  fun _ _ _ _ _ _ _ _ _ _ _ _ _ => (Rx_iret gMT_290 d290_543 rfl rfl).trans (if_pos rfl),
  fun _ _ _ _ _ _ _ _ _ _ _ _ _ _ => Rx_iret gMT_290 d290_543 rfl rfl,
  fun _ _ _ _ _ _ _ _ _ _ _ _ _ _ => Rx_of gMT_290 d290_544 rfl⟩
theorem QLaw_law_11 : (∀ (E : sV) (d : Nat) (l0 l1 l2 l3 l4 l5 l6 l7 l8 l9 : Option Value) (x : Int32) (st : List Value) (σ : sS), Rx E d 290 546 [l0, l1, l2, l3, l4, l5, l6, l7, l8, l9] (.int x :: st) σ = if ¬ x = 0 then Rx E d 290 561 [l0, l1, l2, l3, l4, l5, l6, l7, l8, l9] st σ else Rx E d 290 549 [l0, l1, l2, l3, l4, l5, l6, l7, l8, l9] st σ) ∧
  (∀ (E : sV) (d : Nat) (l0 : Option Value) (l1 : Option Value) (l2 : Option Value) (l4 : Option Value) (l5 : Option Value) (l6 : Option Value) (l7 : Option Value) (l8 : Option Value) (l9 : Option Value) (x : Nat) (st : List Value) (σ : sS), Rx E d 290 549 [l0, l1, l2, some (.ref x), l4, l5, l6, l7, l8, l9] st σ = Rx E d 290 550 [l0, l1, l2, some (.ref x), l4, l5, l6, l7, l8, l9] (.ref x :: st) σ) ∧
  (∀ (E : sV) (d : Nat) (l0 : Option Value) (l1 : Option Value) (l2 : Option Value) (l4 : Option Value) (l5 : Option Value) (l6 : Option Value) (l7 : Option Value) (l8 : Option Value) (l9 : Option Value) (st : List Value) (σ : sS), Rx E d 290 549 [l0, l1, l2, some (.null), l4, l5, l6, l7, l8, l9] st σ = Rx E d 290 550 [l0, l1, l2, some (.null), l4, l5, l6, l7, l8, l9] (.null :: st) σ) ∧
  (∀ (E : sV) (d : Nat) (l0 l1 l2 l3 l4 l5 l6 l7 l8 l9 : Option Value) (st : List Value) (σ : sS), Rx E d 290 550 [l0, l1, l2, l3, l4, l5, l6, l7, l8, l9] st σ = Rx E d 290 551 [l0, l1, l2, l3, l4, l5, l6, l7, l8, l9] (.int (0) :: st) σ) ∧
  (∀ (E : sV) (d : Nat) (l0 l1 l2 l3 l4 l5 l6 l7 l8 l9 : Option Value) (i : Int32) (a : Nat) (st : List Value) (σ : sS), Rx E d 290 551 [l0, l1, l2, l3, l4, l5, l6, l7, l8, l9] (.int i :: .ref a :: st) σ = (aldL σ.1 a i).bind (fun v => Rx E d 290 552 [l0, l1, l2, l3, l4, l5, l6, l7, l8, l9] (v :: st) σ)) ∧
  (∀ (E : sV) (d : Nat) (l0 : Option Value) (l1 : Option Value) (l2 : Option Value) (l3 : Option Value) (l4 : Option Value) (l5 : Option Value) (l6 : Option Value) (l8 : Option Value) (l9 : Option Value) (x : Int32) (st : List Value) (σ : sS), Rx E d 290 552 [l0, l1, l2, l3, l4, l5, l6, some (.int x), l8, l9] st σ = Rx E d 290 554 [l0, l1, l2, l3, l4, l5, l6, some (.int x), l8, l9] (.int x :: st) σ) ∧
  (∀ (E : sV) (d : Nat) (l0 l1 l2 l3 l4 l5 l6 l7 l8 l9 : Option Value) (x : Int32) (st : List Value) (σ : sS), Rx E d 290 554 [l0, l1, l2, l3, l4, l5, l6, l7, l8, l9] (.int x :: st) σ = Rx E d 290 555 [l0, l1, l2, l3, l4, l5, l6, l7, l8, l9] (.long x.toInt64 :: st) σ) ∧
  (∀ (E : sV) (d : Nat) (l0 l1 l2 l3 l4 l5 l6 l7 l8 l9 : Option Value) (x y : Int64) (st : List Value) (σ : sS), Rx E d 290 555 [l0, l1, l2, l3, l4, l5, l6, l7, l8, l9] (.long y :: .long x :: st) σ = Rx E d 290 556 [l0, l1, l2, l3, l4, l5, l6, l7, l8, l9] (.int (lg_cmp x y) :: st) σ) ∧
  (∀ (E : sV) (d : Nat) (l0 l1 l2 l3 l4 l5 l6 l7 l8 l9 : Option Value) (x : Int32) (st : List Value) (σ : sS), Rx E d 290 556 [l0, l1, l2, l3, l4, l5, l6, l7, l8, l9] (.int x :: st) σ = if x = 0 then Rx E d 290 561 [l0, l1, l2, l3, l4, l5, l6, l7, l8, l9] st σ else Rx E d 290 559 [l0, l1, l2, l3, l4, l5, l6, l7, l8, l9] st σ) ∧
  (∀ (E : sV) (d : Nat) (l0 l1 l2 l3 l4 l5 l6 l7 l8 l9 : Option Value) (st : List Value) (σ : sS), Rx E d 290 559 [l0, l1, l2, l3, l4, l5, l6, l7, l8, l9] st σ = Rx E d 290 560 [l0, l1, l2, l3, l4, l5, l6, l7, l8, l9] (.int (0) :: st) σ) ∧
  (∀ (E : sV) (d : Nat) (l0 l1 l2 l3 l4 l5 l6 l7 l8 l9 : Option Value) (σ : sS), Rx E d 290 560 [l0, l1, l2, l3, l4, l5, l6, l7, l8, l9] [.int 0] σ = some (.inl (some (.int 0)), σ)) ∧
  (∀ (E : sV) (d : Nat) (l0 l1 l2 l3 l4 l5 l6 l7 l8 l9 : Option Value) (σ : sS), Rx E d 290 560 [l0, l1, l2, l3, l4, l5, l6, l7, l8, l9] [.int 1] σ = some (.inl (some (.int 1)), σ)) ∧
  (∀ (E : sV) (d : Nat) (l0 l1 l2 l3 l4 l5 l6 l7 l8 l9 : Option Value) (v : Int32) (σ : sS), Rx E d 290 560 [l0, l1, l2, l3, l4, l5, l6, l7, l8, l9] [.int v] σ = if narrow .boolean (.int v) = .int v then some (.inl (some (.int v)), σ) else none) ∧
  (∀ (E : sV) (d : Nat) (l0 l1 l2 l3 l4 l5 l6 l7 l8 l9 : Option Value) (st : List Value) (σ : sS), Rx E d 290 561 [l0, l1, l2, l3, l4, l5, l6, l7, l8, l9] st σ = Rx E d 290 3001 [l0, l1, l2, l3, l4, l5, l6, l7, l8, l9] st σ) ∧
  (∀ (E : sV) (d : Nat) (l0 : Option Value) (l2 : Option Value) (l3 : Option Value) (l4 : Option Value) (l5 : Option Value) (l6 : Option Value) (l7 : Option Value) (l8 : Option Value) (l9 : Option Value) (x : Nat) (st : List Value) (σ : sS), Rx E d 290 564 [l0, some (.ref x), l2, l3, l4, l5, l6, l7, l8, l9] st σ = Rx E d 290 565 [l0, some (.ref x), l2, l3, l4, l5, l6, l7, l8, l9] (.ref x :: st) σ) ∧
  (∀ (E : sV) (d : Nat) (l0 : Option Value) (l2 : Option Value) (l3 : Option Value) (l4 : Option Value) (l5 : Option Value) (l6 : Option Value) (l7 : Option Value) (l8 : Option Value) (l9 : Option Value) (st : List Value) (σ : sS), Rx E d 290 564 [l0, some (.null), l2, l3, l4, l5, l6, l7, l8, l9] st σ = Rx E d 290 565 [l0, some (.null), l2, l3, l4, l5, l6, l7, l8, l9] (.null :: st) σ) ∧
  (∀ (E : sV) (d : Nat) (l1 : Option Value) (l2 : Option Value) (l3 : Option Value) (l4 : Option Value) (l5 : Option Value) (l6 : Option Value) (l7 : Option Value) (l8 : Option Value) (l9 : Option Value) (x : Nat) (st : List Value) (σ : sS), Rx E d 290 565 [some (.ref x), l1, l2, l3, l4, l5, l6, l7, l8, l9] st σ = Rx E d 290 566 [some (.ref x), l1, l2, l3, l4, l5, l6, l7, l8, l9] (.ref x :: st) σ) ∧
  (∀ (E : sV) (d : Nat) (l1 : Option Value) (l2 : Option Value) (l3 : Option Value) (l4 : Option Value) (l5 : Option Value) (l6 : Option Value) (l7 : Option Value) (l8 : Option Value) (l9 : Option Value) (st : List Value) (σ : sS), Rx E d 290 565 [some (.null), l1, l2, l3, l4, l5, l6, l7, l8, l9] st σ = Rx E d 290 566 [some (.null), l1, l2, l3, l4, l5, l6, l7, l8, l9] (.null :: st) σ) ∧
  (∀ (E : sV) (d : Nat) (l0 : Option Value) (l1 : Option Value) (l2 : Option Value) (l3 : Option Value) (l4 : Option Value) (l6 : Option Value) (l7 : Option Value) (l8 : Option Value) (l9 : Option Value) (x : Int32) (st : List Value) (σ : sS), Rx E d 290 566 [l0, l1, l2, l3, l4, some (.int x), l6, l7, l8, l9] st σ = Rx E d 290 568 [l0, l1, l2, l3, l4, some (.int x), l6, l7, l8, l9] (.int x :: st) σ) ∧
  (∀ (E : sV) (d : Nat) (l0 l1 l2 l3 l4 l5 l6 l7 l8 l9 : Option Value) (st : List Value) (σ : sS), Rx E d 290 568 [l0, l1, l2, l3, l4, l5, l6, l7, l8, l9] st σ = Rx E d 290 569 [l0, l1, l2, l3, l4, l5, l6, l7, l8, l9] (.int (1) :: st) σ) ∧
  (∀ (E : sV) (d : Nat) (l0 l1 l2 l3 l4 l5 l6 l7 l8 l9 : Option Value) (x y : Int32) (st : List Value) (σ : sS), Rx E d 290 569 [l0, l1, l2, l3, l4, l5, l6, l7, l8, l9] (.int y :: .int x :: st) σ = Rx E d 290 570 [l0, l1, l2, l3, l4, l5, l6, l7, l8, l9] (.int (x + y) :: st) σ) ∧
  (∀ (E : sV) (d : Nat) (l0 l1 l2 l3 l4 l5 l6 l7 l8 l9 : Option Value) (i : Int32) (a : Nat) (st : List Value) (σ : sS), Rx E d 290 570 [l0, l1, l2, l3, l4, l5, l6, l7, l8, l9] (.int i :: .ref a :: st) σ = (aldI .int σ.1 a i).bind (fun v => Rx E d 290 571 [l0, l1, l2, l3, l4, l5, l6, l7, l8, l9] (v :: st) σ)) ∧
  (∀ (E : sV) (d : Nat) (l0 l1 l2 l3 l4 l5 l6 l7 l8 l9 : Option Value) (x : Int32) (st : List Value) (σ : sS), Rx E d 290 571 [l0, l1, l2, l3, l4, l5, l6, l7, l8, l9] (.int x :: st) σ = Rx E d 290 572 [l0, l1, l2, l3, l4, l5, l6, l7, l8, l9] (.int (x.toUInt32 % 65536).toInt32 :: st) σ) ∧
  (∀ (E : sV) (d : Nat) (l1 : Option Value) (l2 : Option Value) (l3 : Option Value) (l4 : Option Value) (l5 : Option Value) (l6 : Option Value) (l7 : Option Value) (l8 : Option Value) (l9 : Option Value) (x : Nat) (st : List Value) (σ : sS), Rx E d 290 572 [some (.ref x), l1, l2, l3, l4, l5, l6, l7, l8, l9] st σ = Rx E d 290 573 [some (.ref x), l1, l2, l3, l4, l5, l6, l7, l8, l9] (.ref x :: st) σ) ∧
  (∀ (E : sV) (d : Nat) (l1 : Option Value) (l2 : Option Value) (l3 : Option Value) (l4 : Option Value) (l5 : Option Value) (l6 : Option Value) (l7 : Option Value) (l8 : Option Value) (l9 : Option Value) (st : List Value) (σ : sS), Rx E d 290 572 [some (.null), l1, l2, l3, l4, l5, l6, l7, l8, l9] st σ = Rx E d 290 573 [some (.null), l1, l2, l3, l4, l5, l6, l7, l8, l9] (.null :: st) σ) ∧
  (∀ (E : sV) (d : Nat) (l0 : Option Value) (l1 : Option Value) (l2 : Option Value) (l3 : Option Value) (l4 : Option Value) (l6 : Option Value) (l7 : Option Value) (l8 : Option Value) (l9 : Option Value) (x : Int32) (st : List Value) (σ : sS), Rx E d 290 573 [l0, l1, l2, l3, l4, some (.int x), l6, l7, l8, l9] st σ = Rx E d 290 575 [l0, l1, l2, l3, l4, some (.int x), l6, l7, l8, l9] (.int x :: st) σ) ∧
  (∀ (E : sV) (d : Nat) (l0 l1 l2 l3 l4 l5 l6 l7 l8 l9 : Option Value) (st : List Value) (σ : sS), Rx E d 290 575 [l0, l1, l2, l3, l4, l5, l6, l7, l8, l9] st σ = Rx E d 290 576 [l0, l1, l2, l3, l4, l5, l6, l7, l8, l9] (.int (2) :: st) σ) ∧
  (∀ (E : sV) (d : Nat) (l0 l1 l2 l3 l4 l5 l6 l7 l8 l9 : Option Value) (x y : Int32) (st : List Value) (σ : sS), Rx E d 290 576 [l0, l1, l2, l3, l4, l5, l6, l7, l8, l9] (.int y :: .int x :: st) σ = Rx E d 290 577 [l0, l1, l2, l3, l4, l5, l6, l7, l8, l9] (.int (x + y) :: st) σ) ∧
  (∀ (E : sV) (d : Nat) (l0 l1 l2 l3 l4 l5 l6 l7 l8 l9 : Option Value) (i : Int32) (a : Nat) (st : List Value) (σ : sS), Rx E d 290 577 [l0, l1, l2, l3, l4, l5, l6, l7, l8, l9] (.int i :: .ref a :: st) σ = (aldI .int σ.1 a i).bind (fun v => Rx E d 290 578 [l0, l1, l2, l3, l4, l5, l6, l7, l8, l9] (v :: st) σ)) ∧
  (∀ (E : sV) (d : Nat) (l0 : Option Value) (l1 : Option Value) (l2 : Option Value) (l4 : Option Value) (l5 : Option Value) (l6 : Option Value) (l7 : Option Value) (l8 : Option Value) (l9 : Option Value) (x : Nat) (st : List Value) (σ : sS), Rx E d 290 578 [l0, l1, l2, some (.ref x), l4, l5, l6, l7, l8, l9] st σ = Rx E d 290 579 [l0, l1, l2, some (.ref x), l4, l5, l6, l7, l8, l9] (.ref x :: st) σ) := ⟨fun _ _ _ _ _ _ _ _ _ _ _ _ _ _ _ => Rx_if gMT_290 d290_546 rfl rfl (by decide),
  fun _ _ _ _ _ _ _ _ _ _ _ _ _ _ => Rx_of gMT_290 d290_549 rfl,
  fun _ _ _ _ _ _ _ _ _ _ _ _ _ => Rx_of gMT_290 d290_549 rfl,
  fun _ _ _ _ _ _ _ _ _ _ _ _ _ _ => Rx_of gMT_290 d290_550 rfl,
  fun _ _ _ _ _ _ _ _ _ _ _ _ _ _ _ _ => Rx_ald gMT_290 d290_551 rfl rfl,
  fun _ _ _ _ _ _ _ _ _ _ _ _ _ _ => Rx_of gMT_290 d290_552 rfl,
  fun _ _ _ _ _ _ _ _ _ _ _ _ _ _ _ => Rx_of gMT_290 d290_554 rfl,
  fun _ _ _ _ _ _ _ _ _ _ _ _ _ _ _ _ => Rx_of gMT_290 d290_555 rfl,
  fun _ _ _ _ _ _ _ _ _ _ _ _ _ _ _ => Rx_if gMT_290 d290_556 rfl rfl (by decide),
  fun _ _ _ _ _ _ _ _ _ _ _ _ _ _ => Rx_of gMT_290 d290_559 rfl,
  fun _ _ _ _ _ _ _ _ _ _ _ _ _ => (Rx_iret gMT_290 d290_560 rfl rfl).trans (if_pos rfl),
  fun _ _ _ _ _ _ _ _ _ _ _ _ _ => (Rx_iret gMT_290 d290_560 rfl rfl).trans (if_pos rfl),
  fun _ _ _ _ _ _ _ _ _ _ _ _ _ _ => Rx_iret gMT_290 d290_560 rfl rfl,
  fun _ _ _ _ _ _ _ _ _ _ _ _ _ _ => Rx_goto gMT_290 d290_561 rfl (by decide),
  fun _ _ _ _ _ _ _ _ _ _ _ _ _ _ => Rx_of gMT_290 d290_564 rfl,
  fun _ _ _ _ _ _ _ _ _ _ _ _ _ => Rx_of gMT_290 d290_564 rfl,
  fun _ _ _ _ _ _ _ _ _ _ _ _ _ _ => Rx_of gMT_290 d290_565 rfl,
  fun _ _ _ _ _ _ _ _ _ _ _ _ _ => Rx_of gMT_290 d290_565 rfl,
  fun _ _ _ _ _ _ _ _ _ _ _ _ _ _ => Rx_of gMT_290 d290_566 rfl,
  fun _ _ _ _ _ _ _ _ _ _ _ _ _ _ => Rx_of gMT_290 d290_568 rfl,
  fun _ _ _ _ _ _ _ _ _ _ _ _ _ _ _ _ => Rx_of gMT_290 d290_569 rfl,
  fun _ _ _ _ _ _ _ _ _ _ _ _ _ _ _ _ => Rx_ald gMT_290 d290_570 rfl rfl,
  fun _ _ _ _ _ _ _ _ _ _ _ _ _ _ _ => Rx_of gMT_290 d290_571 rfl,
  fun _ _ _ _ _ _ _ _ _ _ _ _ _ _ => Rx_of gMT_290 d290_572 rfl,
  fun _ _ _ _ _ _ _ _ _ _ _ _ _ => Rx_of gMT_290 d290_572 rfl,
  fun _ _ _ _ _ _ _ _ _ _ _ _ _ _ => Rx_of gMT_290 d290_573 rfl,
  fun _ _ _ _ _ _ _ _ _ _ _ _ _ _ => Rx_of gMT_290 d290_575 rfl,
  fun _ _ _ _ _ _ _ _ _ _ _ _ _ _ _ _ => Rx_of gMT_290 d290_576 rfl,
  fun _ _ _ _ _ _ _ _ _ _ _ _ _ _ _ _ => Rx_ald gMT_290 d290_577 rfl rfl,
  fun _ _ _ _ _ _ _ _ _ _ _ _ _ _ => Rx_of gMT_290 d290_578 rfl⟩
theorem QLaw_law_12 : (∀ (E : sV) (d : Nat) (l0 : Option Value) (l1 : Option Value) (l2 : Option Value) (l4 : Option Value) (l5 : Option Value) (l6 : Option Value) (l7 : Option Value) (l8 : Option Value) (l9 : Option Value) (st : List Value) (σ : sS), Rx E d 290 578 [l0, l1, l2, some (.null), l4, l5, l6, l7, l8, l9] st σ = Rx E d 290 579 [l0, l1, l2, some (.null), l4, l5, l6, l7, l8, l9] (.null :: st) σ) ∧
  (∀ (E : sV) (d : Nat) (l0 l1 l2 l3 l4 l5 l6 l7 l8 l9 : Option Value) (v1 v2 v3 v4 : Value) (st : List Value) (σ : sS), Rx E d 290 579 [l0, l1, l2, l3, l4, l5, l6, l7, l8, l9] (v4 :: v3 :: v2 :: v1 :: st) σ = if cats st ≤ 8 then callK (Mt E d 251 [v1, v2, v3, v4] σ) (fun v σ => Rx E d 290 582 [l0, l1, l2, l3, l4, l5, l6, l7, l8, l9] (v.toList ++ st) σ) else none) ∧
  (∀ (E : sV) (d : Nat) (l0 l1 l2 l3 l4 l5 l6 l7 l8 l9 : Option Value) (x : Int32) (st : List Value) (σ : sS), Rx E d 290 582 [l0, l1, l2, l3, l4, l5, l6, l7, l8, l9] (.int x :: st) σ = Rx E d 290 584 [l0, l1, l2, l3, l4, ldrop l5, some (.int x), l7, l8, l9] st σ) ∧
  (∀ (E : sV) (d : Nat) (l0 : Option Value) (l1 : Option Value) (l3 : Option Value) (l4 : Option Value) (l5 : Option Value) (l6 : Option Value) (l7 : Option Value) (l8 : Option Value) (l9 : Option Value) (x : Nat) (st : List Value) (σ : sS), Rx E d 290 584 [l0, l1, some (.ref x), l3, l4, l5, l6, l7, l8, l9] st σ = Rx E d 290 585 [l0, l1, some (.ref x), l3, l4, l5, l6, l7, l8, l9] (.ref x :: st) σ) ∧
  (∀ (E : sV) (d : Nat) (l0 : Option Value) (l1 : Option Value) (l3 : Option Value) (l4 : Option Value) (l5 : Option Value) (l6 : Option Value) (l7 : Option Value) (l8 : Option Value) (l9 : Option Value) (st : List Value) (σ : sS), Rx E d 290 584 [l0, l1, some (.null), l3, l4, l5, l6, l7, l8, l9] st σ = Rx E d 290 585 [l0, l1, some (.null), l3, l4, l5, l6, l7, l8, l9] (.null :: st) σ) ∧
  (∀ (E : sV) (d : Nat) (l1 : Option Value) (l2 : Option Value) (l3 : Option Value) (l4 : Option Value) (l5 : Option Value) (l6 : Option Value) (l7 : Option Value) (l8 : Option Value) (l9 : Option Value) (x : Nat) (st : List Value) (σ : sS), Rx E d 290 585 [some (.ref x), l1, l2, l3, l4, l5, l6, l7, l8, l9] st σ = Rx E d 290 586 [some (.ref x), l1, l2, l3, l4, l5, l6, l7, l8, l9] (.ref x :: st) σ) ∧
  (∀ (E : sV) (d : Nat) (l1 : Option Value) (l2 : Option Value) (l3 : Option Value) (l4 : Option Value) (l5 : Option Value) (l6 : Option Value) (l7 : Option Value) (l8 : Option Value) (l9 : Option Value) (st : List Value) (σ : sS), Rx E d 290 585 [some (.null), l1, l2, l3, l4, l5, l6, l7, l8, l9] st σ = Rx E d 290 586 [some (.null), l1, l2, l3, l4, l5, l6, l7, l8, l9] (.null :: st) σ) ∧
  (∀ (E : sV) (d : Nat) (l0 : Option Value) (l1 : Option Value) (l2 : Option Value) (l3 : Option Value) (l4 : Option Value) (l6 : Option Value) (l7 : Option Value) (l8 : Option Value) (l9 : Option Value) (x : Int32) (st : List Value) (σ : sS), Rx E d 290 586 [l0, l1, l2, l3, l4, some (.int x), l6, l7, l8, l9] st σ = Rx E d 290 588 [l0, l1, l2, l3, l4, some (.int x), l6, l7, l8, l9] (.int x :: st) σ) ∧
  (∀ (E : sV) (d : Nat) (l0 l1 l2 l3 l4 l5 l6 l7 l8 l9 : Option Value) (st : List Value) (σ : sS), Rx E d 290 588 [l0, l1, l2, l3, l4, l5, l6, l7, l8, l9] st σ = Rx E d 290 589 [l0, l1, l2, l3, l4, l5, l6, l7, l8, l9] (.int (1) :: st) σ) ∧
  (∀ (E : sV) (d : Nat) (l0 l1 l2 l3 l4 l5 l6 l7 l8 l9 : Option Value) (x y : Int32) (st : List Value) (σ : sS), Rx E d 290 589 [l0, l1, l2, l3, l4, l5, l6, l7, l8, l9] (.int y :: .int x :: st) σ = Rx E d 290 590 [l0, l1, l2, l3, l4, l5, l6, l7, l8, l9] (.int (x + y) :: st) σ) ∧
  (∀ (E : sV) (d : Nat) (l0 l1 l2 l3 l4 l5 l6 l7 l8 l9 : Option Value) (i : Int32) (a : Nat) (st : List Value) (σ : sS), Rx E d 290 590 [l0, l1, l2, l3, l4, l5, l6, l7, l8, l9] (.int i :: .ref a :: st) σ = (aldI .int σ.1 a i).bind (fun v => Rx E d 290 591 [l0, l1, l2, l3, l4, l5, l6, l7, l8, l9] (v :: st) σ)) ∧
  (∀ (E : sV) (d : Nat) (l0 l1 l2 l3 l4 l5 l6 l7 l8 l9 : Option Value) (x : Int32) (st : List Value) (σ : sS), Rx E d 290 591 [l0, l1, l2, l3, l4, l5, l6, l7, l8, l9] (.int x :: st) σ = Rx E d 290 592 [l0, l1, l2, l3, l4, l5, l6, l7, l8, l9] (.int (x.toUInt32 % 65536).toInt32 :: st) σ) ∧
  (∀ (E : sV) (d : Nat) (l1 : Option Value) (l2 : Option Value) (l3 : Option Value) (l4 : Option Value) (l5 : Option Value) (l6 : Option Value) (l7 : Option Value) (l8 : Option Value) (l9 : Option Value) (x : Nat) (st : List Value) (σ : sS), Rx E d 290 592 [some (.ref x), l1, l2, l3, l4, l5, l6, l7, l8, l9] st σ = Rx E d 290 593 [some (.ref x), l1, l2, l3, l4, l5, l6, l7, l8, l9] (.ref x :: st) σ) ∧
  (∀ (E : sV) (d : Nat) (l1 : Option Value) (l2 : Option Value) (l3 : Option Value) (l4 : Option Value) (l5 : Option Value) (l6 : Option Value) (l7 : Option Value) (l8 : Option Value) (l9 : Option Value) (st : List Value) (σ : sS), Rx E d 290 592 [some (.null), l1, l2, l3, l4, l5, l6, l7, l8, l9] st σ = Rx E d 290 593 [some (.null), l1, l2, l3, l4, l5, l6, l7, l8, l9] (.null :: st) σ) ∧
  (∀ (E : sV) (d : Nat) (l0 : Option Value) (l1 : Option Value) (l2 : Option Value) (l3 : Option Value) (l4 : Option Value) (l6 : Option Value) (l7 : Option Value) (l8 : Option Value) (l9 : Option Value) (x : Int32) (st : List Value) (σ : sS), Rx E d 290 593 [l0, l1, l2, l3, l4, some (.int x), l6, l7, l8, l9] st σ = Rx E d 290 595 [l0, l1, l2, l3, l4, some (.int x), l6, l7, l8, l9] (.int x :: st) σ) ∧
  (∀ (E : sV) (d : Nat) (l0 l1 l2 l3 l4 l5 l6 l7 l8 l9 : Option Value) (st : List Value) (σ : sS), Rx E d 290 595 [l0, l1, l2, l3, l4, l5, l6, l7, l8, l9] st σ = Rx E d 290 596 [l0, l1, l2, l3, l4, l5, l6, l7, l8, l9] (.int (2) :: st) σ) ∧
  (∀ (E : sV) (d : Nat) (l0 l1 l2 l3 l4 l5 l6 l7 l8 l9 : Option Value) (x y : Int32) (st : List Value) (σ : sS), Rx E d 290 596 [l0, l1, l2, l3, l4, l5, l6, l7, l8, l9] (.int y :: .int x :: st) σ = Rx E d 290 597 [l0, l1, l2, l3, l4, l5, l6, l7, l8, l9] (.int (x + y) :: st) σ) ∧
  (∀ (E : sV) (d : Nat) (l0 l1 l2 l3 l4 l5 l6 l7 l8 l9 : Option Value) (i : Int32) (a : Nat) (st : List Value) (σ : sS), Rx E d 290 597 [l0, l1, l2, l3, l4, l5, l6, l7, l8, l9] (.int i :: .ref a :: st) σ = (aldI .int σ.1 a i).bind (fun v => Rx E d 290 598 [l0, l1, l2, l3, l4, l5, l6, l7, l8, l9] (v :: st) σ)) ∧
  (∀ (E : sV) (d : Nat) (l0 l1 l2 l3 l4 l5 l6 l7 l8 l9 : Option Value) (v1 v2 : Value) (b : Nat) (st : List Value) (σ : sS), Rx E d 290 598 [l0, l1, l2, l3, l4, l5, l6, l7, l8, l9] (v2 :: v1 :: .ref b :: st) σ = if cats st ≤ 8 ∧ isOb σ.1 b 8 = true then callK (Mt E d 151 [.ref b, v1, v2] σ) (fun v σ => Rx E d 290 601 [l0, l1, l2, l3, l4, l5, l6, l7, l8, l9] (v.toList ++ st) σ) else none) ∧
  (∀ (E : sV) (d : Nat) (l0 l1 l2 l3 l4 l5 l6 l7 l8 l9 : Option Value) (x : Int32) (st : List Value) (σ : sS), Rx E d 290 601 [l0, l1, l2, l3, l4, l5, l6, l7, l8, l9] (.int x :: st) σ = Rx E d 290 603 [l0, l1, l2, l3, l4, l5, ldrop l6, some (.int x), l8, l9] st σ) ∧
  (∀ (E : sV) (d : Nat) (l0 : Option Value) (l1 : Option Value) (l3 : Option Value) (l4 : Option Value) (l5 : Option Value) (l6 : Option Value) (l7 : Option Value) (l8 : Option Value) (l9 : Option Value) (x : Nat) (st : List Value) (σ : sS), Rx E d 290 603 [l0, l1, some (.ref x), l3, l4, l5, l6, l7, l8, l9] st σ = Rx E d 290 604 [l0, l1, some (.ref x), l3, l4, l5, l6, l7, l8, l9] (.ref x :: st) σ) ∧
  (∀ (E : sV) (d : Nat) (l0 : Option Value) (l1 : Option Value) (l3 : Option Value) (l4 : Option Value) (l5 : Option Value) (l6 : Option Value) (l7 : Option Value) (l8 : Option Value) (l9 : Option Value) (st : List Value) (σ : sS), Rx E d 290 603 [l0, l1, some (.null), l3, l4, l5, l6, l7, l8, l9] st σ = Rx E d 290 604 [l0, l1, some (.null), l3, l4, l5, l6, l7, l8, l9] (.null :: st) σ) ∧
  (∀ (E : sV) (d : Nat) (l0 l1 l2 l3 l4 l5 l6 l7 l8 l9 : Option Value) (b : Nat) (st : List Value) (σ : sS), Rx E d 290 604 [l0, l1, l2, l3, l4, l5, l6, l7, l8, l9] (.ref b :: st) σ = if cats st ≤ 8 ∧ isOb σ.1 b 8 = true then callK (Mt E d 128 [.ref b] σ) (fun v σ => Rx E d 290 607 [l0, l1, l2, l3, l4, l5, l6, l7, l8, l9] (v.toList ++ st) σ) else none) ∧
  (∀ (E : sV) (d : Nat) (l0 : Option Value) (l1 : Option Value) (l2 : Option Value) (l3 : Option Value) (l4 : Option Value) (l5 : Option Value) (l7 : Option Value) (l8 : Option Value) (l9 : Option Value) (x : Int32) (st : List Value) (σ : sS), Rx E d 290 607 [l0, l1, l2, l3, l4, l5, some (.int x), l7, l8, l9] st σ = Rx E d 290 609 [l0, l1, l2, l3, l4, l5, some (.int x), l7, l8, l9] (.int x :: st) σ) ∧
  (∀ (E : sV) (d : Nat) (l0 l1 l2 l3 l4 l5 l6 l7 l8 l9 : Option Value) (x y : Int32) (st : List Value) (σ : sS), Rx E d 290 609 [l0, l1, l2, l3, l4, l5, l6, l7, l8, l9] (.int y :: .int x :: st) σ = if x = y then Rx E d 290 614 [l0, l1, l2, l3, l4, l5, l6, l7, l8, l9] st σ else Rx E d 290 612 [l0, l1, l2, l3, l4, l5, l6, l7, l8, l9] st σ) ∧
  (∀ (E : sV) (d : Nat) (l0 l1 l2 l3 l4 l5 l6 l7 l8 l9 : Option Value) (st : List Value) (σ : sS), Rx E d 290 612 [l0, l1, l2, l3, l4, l5, l6, l7, l8, l9] st σ = Rx E d 290 613 [l0, l1, l2, l3, l4, l5, l6, l7, l8, l9] (.int (0) :: st) σ) ∧
  (∀ (E : sV) (d : Nat) (l0 l1 l2 l3 l4 l5 l6 l7 l8 l9 : Option Value) (σ : sS), Rx E d 290 613 [l0, l1, l2, l3, l4, l5, l6, l7, l8, l9] [.int 0] σ = some (.inl (some (.int 0)), σ)) ∧
  (∀ (E : sV) (d : Nat) (l0 l1 l2 l3 l4 l5 l6 l7 l8 l9 : Option Value) (σ : sS), Rx E d 290 613 [l0, l1, l2, l3, l4, l5, l6, l7, l8, l9] [.int 1] σ = some (.inl (some (.int 1)), σ)) ∧
  (∀ (E : sV) (d : Nat) (l0 l1 l2 l3 l4 l5 l6 l7 l8 l9 : Option Value) (v : Int32) (σ : sS), Rx E d 290 613 [l0, l1, l2, l3, l4, l5, l6, l7, l8, l9] [.int v] σ = if narrow .boolean (.int v) = .int v then some (.inl (some (.int v)), σ) else none) ∧
  (∀ (E : sV) (d : Nat) (l0 : Option Value) (l1 : Option Value) (l2 : Option Value) (l3 : Option Value) (l4 : Option Value) (l5 : Option Value) (l7 : Option Value) (l8 : Option Value) (l9 : Option Value) (x : Int32) (st : List Value) (σ : sS), Rx E d 290 614 [l0, l1, l2, l3, l4, l5, some (.int x), l7, l8, l9] st σ = Rx E d 290 616 [l0, l1, l2, l3, l4, l5, some (.int x), l7, l8, l9] (.int x :: st) σ) := ⟨fun _ _ _ _ _ _ _ _ _ _ _ _ _ => Rx_of gMT_290 d290_578 rfl,
  fun _ _ _ _ _ _ _ _ _ _ _ _ _ _ _ _ _ _ => Rx_callS gMT_290 d290_579 rfl rfl rfl rfl rfl,
  fun _ _ _ _ _ _ _ _ _ _ _ _ _ _ _ => Rx_of gMT_290 d290_582 rfl,
  fun _ _ _ _ _ _ _ _ _ _ _ _ _ _ => Rx_of gMT_290 d290_584 rfl,
  fun _ _ _ _ _ _ _ _ _ _ _ _ _ => Rx_of gMT_290 d290_584 rfl,
  fun _ _ _ _ _ _ _ _ _ _ _ _ _ _ => Rx_of gMT_290 d290_585 rfl,
  fun _ _ _ _ _ _ _ _ _ _ _ _ _ => Rx_of gMT_290 d290_585 rfl,
  fun _ _ _ _ _ _ _ _ _ _ _ _ _ _ => Rx_of gMT_290 d290_586 rfl,
  fun _ _ _ _ _ _ _ _ _ _ _ _ _ _ => Rx_of gMT_290 d290_588 rfl,
  fun _ _ _ _ _ _ _ _ _ _ _ _ _ _ _ _ => Rx_of gMT_290 d290_589 rfl,
  fun _ _ _ _ _ _ _ _ _ _ _ _ _ _ _ _ => Rx_ald gMT_290 d290_590 rfl rfl,
  fun _ _ _ _ _ _ _ _ _ _ _ _ _ _ _ => Rx_of gMT_290 d290_591 rfl,
  fun _ _ _ _ _ _ _ _ _ _ _ _ _ _ => Rx_of gMT_290 d290_592 rfl,
  fun _ _ _ _ _ _ _ _ _ _ _ _ _ => Rx_of gMT_290 d290_592 rfl,
  fun _ _ _ _ _ _ _ _ _ _ _ _ _ _ => Rx_of gMT_290 d290_593 rfl,
  fun _ _ _ _ _ _ _ _ _ _ _ _ _ _ => Rx_of gMT_290 d290_595 rfl,
  fun _ _ _ _ _ _ _ _ _ _ _ _ _ _ _ _ => Rx_of gMT_290 d290_596 rfl,
  fun _ _ _ _ _ _ _ _ _ _ _ _ _ _ _ _ => Rx_ald gMT_290 d290_597 rfl rfl,
  fun _ _ _ _ _ _ _ _ _ _ _ _ _ _ _ _ _ => Rx_callV gMT_290 d290_598 rfl rfl rfl rfl rfl,
  fun _ _ _ _ _ _ _ _ _ _ _ _ _ _ _ => Rx_of gMT_290 d290_601 rfl,
  fun _ _ _ _ _ _ _ _ _ _ _ _ _ _ => Rx_of gMT_290 d290_603 rfl,
  fun _ _ _ _ _ _ _ _ _ _ _ _ _ => Rx_of gMT_290 d290_603 rfl,
  fun _ _ _ _ _ _ _ _ _ _ _ _ _ _ _ => Rx_callV gMT_290 d290_604 rfl rfl rfl rfl rfl,
  fun _ _ _ _ _ _ _ _ _ _ _ _ _ _ => Rx_of gMT_290 d290_607 rfl,
  fun _ _ _ _ _ _ _ _ _ _ _ _ _ _ _ _ => Rx_icmp gMT_290 d290_609 rfl rfl (by decide),
  fun _ _ _ _ _ _ _ _ _ _ _ _ _ _ => Rx_of gMT_290 d290_612 rfl,
  fun _ _ _ _ _ _ _ _ _ _ _ _ _ => (Rx_iret gMT_290 d290_613 rfl rfl).trans (if_pos rfl),
  fun _ _ _ _ _ _ _ _ _ _ _ _ _ => (Rx_iret gMT_290 d290_613 rfl rfl).trans (if_pos rfl),
  fun _ _ _ _ _ _ _ _ _ _ _ _ _ _ => Rx_iret gMT_290 d290_613 rfl rfl,
  fun _ _ _ _ _ _ _ _ _ _ _ _ _ _ => Rx_of gMT_290 d290_614 rfl⟩
theorem QLaw_law_13 : (∀ (E : sV) (d : Nat) (l0 l1 l2 l3 l4 l5 l6 l7 l8 l9 : Option Value) (x : Int32) (st : List Value) (σ : sS), Rx E d 290 616 [l0, l1, l2, l3, l4, l5, l6, l7, l8, l9] (.int x :: st) σ = if ¬ x = 0 then Rx E d 290 631 [l0, l1, l2, l3, l4, l5, l6, l7, l8, l9] st σ else Rx E d 290 619 [l0, l1, l2, l3, l4, l5, l6, l7, l8, l9] st σ) ∧
  (∀ (E : sV) (d : Nat) (l0 : Option Value) (l1 : Option Value) (l2 : Option Value) (l4 : Option Value) (l5 : Option Value) (l6 : Option Value) (l7 : Option Value) (l8 : Option Value) (l9 : Option Value) (x : Nat) (st : List Value) (σ : sS), Rx E d 290 619 [l0, l1, l2, some (.ref x), l4, l5, l6, l7, l8, l9] st σ = Rx E d 290 620 [l0, l1, l2, some (.ref x), l4, l5, l6, l7, l8, l9] (.ref x :: st) σ) ∧
  (∀ (E : sV) (d : Nat) (l0 : Option Value) (l1 : Option Value) (l2 : Option Value) (l4 : Option Value) (l5 : Option Value) (l6 : Option Value) (l7 : Option Value) (l8 : Option Value) (l9 : Option Value) (st : List Value) (σ : sS), Rx E d 290 619 [l0, l1, l2, some (.null), l4, l5, l6, l7, l8, l9] st σ = Rx E d 290 620 [l0, l1, l2, some (.null), l4, l5, l6, l7, l8, l9] (.null :: st) σ) ∧
  (∀ (E : sV) (d : Nat) (l0 l1 l2 l3 l4 l5 l6 l7 l8 l9 : Option Value) (st : List Value) (σ : sS), Rx E d 290 620 [l0, l1, l2, l3, l4, l5, l6, l7, l8, l9] st σ = Rx E d 290 621 [l0, l1, l2, l3, l4, l5, l6, l7, l8, l9] (.int (0) :: st) σ) ∧
  (∀ (E : sV) (d : Nat) (l0 l1 l2 l3 l4 l5 l6 l7 l8 l9 : Option Value) (i : Int32) (a : Nat) (st : List Value) (σ : sS), Rx E d 290 621 [l0, l1, l2, l3, l4, l5, l6, l7, l8, l9] (.int i :: .ref a :: st) σ = (aldL σ.1 a i).bind (fun v => Rx E d 290 622 [l0, l1, l2, l3, l4, l5, l6, l7, l8, l9] (v :: st) σ)) ∧
  (∀ (E : sV) (d : Nat) (l0 : Option Value) (l1 : Option Value) (l2 : Option Value) (l3 : Option Value) (l4 : Option Value) (l5 : Option Value) (l6 : Option Value) (l8 : Option Value) (l9 : Option Value) (x : Int32) (st : List Value) (σ : sS), Rx E d 290 622 [l0, l1, l2, l3, l4, l5, l6, some (.int x), l8, l9] st σ = Rx E d 290 624 [l0, l1, l2, l3, l4, l5, l6, some (.int x), l8, l9] (.int x :: st) σ) ∧
  (∀ (E : sV) (d : Nat) (l0 l1 l2 l3 l4 l5 l6 l7 l8 l9 : Option Value) (x : Int32) (st : List Value) (σ : sS), Rx E d 290 624 [l0, l1, l2, l3, l4, l5, l6, l7, l8, l9] (.int x :: st) σ = Rx E d 290 625 [l0, l1, l2, l3, l4, l5, l6, l7, l8, l9] (.long x.toInt64 :: st) σ) ∧
  (∀ (E : sV) (d : Nat) (l0 l1 l2 l3 l4 l5 l6 l7 l8 l9 : Option Value) (x y : Int64) (st : List Value) (σ : sS), Rx E d 290 625 [l0, l1, l2, l3, l4, l5, l6, l7, l8, l9] (.long y :: .long x :: st) σ = Rx E d 290 626 [l0, l1, l2, l3, l4, l5, l6, l7, l8, l9] (.int (lg_cmp x y) :: st) σ) ∧
  (∀ (E : sV) (d : Nat) (l0 l1 l2 l3 l4 l5 l6 l7 l8 l9 : Option Value) (x : Int32) (st : List Value) (σ : sS), Rx E d 290 626 [l0, l1, l2, l3, l4, l5, l6, l7, l8, l9] (.int x :: st) σ = if x = 0 then Rx E d 290 631 [l0, l1, l2, l3, l4, l5, l6, l7, l8, l9] st σ else Rx E d 290 629 [l0, l1, l2, l3, l4, l5, l6, l7, l8, l9] st σ) ∧
  (∀ (E : sV) (d : Nat) (l0 l1 l2 l3 l4 l5 l6 l7 l8 l9 : Option Value) (st : List Value) (σ : sS), Rx E d 290 629 [l0, l1, l2, l3, l4, l5, l6, l7, l8, l9] st σ = Rx E d 290 630 [l0, l1, l2, l3, l4, l5, l6, l7, l8, l9] (.int (0) :: st) σ) ∧
  (∀ (E : sV) (d : Nat) (l0 l1 l2 l3 l4 l5 l6 l7 l8 l9 : Option Value) (σ : sS), Rx E d 290 630 [l0, l1, l2, l3, l4, l5, l6, l7, l8, l9] [.int 0] σ = some (.inl (some (.int 0)), σ)) ∧
  (∀ (E : sV) (d : Nat) (l0 l1 l2 l3 l4 l5 l6 l7 l8 l9 : Option Value) (σ : sS), Rx E d 290 630 [l0, l1, l2, l3, l4, l5, l6, l7, l8, l9] [.int 1] σ = some (.inl (some (.int 1)), σ)) ∧
  (∀ (E : sV) (d : Nat) (l0 l1 l2 l3 l4 l5 l6 l7 l8 l9 : Option Value) (v : Int32) (σ : sS), Rx E d 290 630 [l0, l1, l2, l3, l4, l5, l6, l7, l8, l9] [.int v] σ = if narrow .boolean (.int v) = .int v then some (.inl (some (.int v)), σ) else none) ∧
  (∀ (E : sV) (d : Nat) (l0 l1 l2 l3 l4 l5 l6 l7 l8 l9 : Option Value) (st : List Value) (σ : sS), Rx E d 290 631 [l0, l1, l2, l3, l4, l5, l6, l7, l8, l9] st σ = Rx E d 290 3001 [l0, l1, l2, l3, l4, l5, l6, l7, l8, l9] st σ) ∧
  (∀ (E : sV) (d : Nat) (l0 : Option Value) (l2 : Option Value) (l3 : Option Value) (l4 : Option Value) (l5 : Option Value) (l6 : Option Value) (l7 : Option Value) (l8 : Option Value) (l9 : Option Value) (x : Nat) (st : List Value) (σ : sS), Rx E d 290 634 [l0, some (.ref x), l2, l3, l4, l5, l6, l7, l8, l9] st σ = Rx E d 290 635 [l0, some (.ref x), l2, l3, l4, l5, l6, l7, l8, l9] (.ref x :: st) σ) ∧
  (∀ (E : sV) (d : Nat) (l0 : Option Value) (l2 : Option Value) (l3 : Option Value) (l4 : Option Value) (l5 : Option Value) (l6 : Option Value) (l7 : Option Value) (l8 : Option Value) (l9 : Option Value) (st : List Value) (σ : sS), Rx E d 290 634 [l0, some (.null), l2, l3, l4, l5, l6, l7, l8, l9] st σ = Rx E d 290 635 [l0, some (.null), l2, l3, l4, l5, l6, l7, l8, l9] (.null :: st) σ) ∧
  (∀ (E : sV) (d : Nat) (l1 : Option Value) (l2 : Option Value) (l3 : Option Value) (l4 : Option Value) (l5 : Option Value) (l6 : Option Value) (l7 : Option Value) (l8 : Option Value) (l9 : Option Value) (x : Nat) (st : List Value) (σ : sS), Rx E d 290 635 [some (.ref x), l1, l2, l3, l4, l5, l6, l7, l8, l9] st σ = Rx E d 290 636 [some (.ref x), l1, l2, l3, l4, l5, l6, l7, l8, l9] (.ref x :: st) σ) ∧
  (∀ (E : sV) (d : Nat) (l1 : Option Value) (l2 : Option Value) (l3 : Option Value) (l4 : Option Value) (l5 : Option Value) (l6 : Option Value) (l7 : Option Value) (l8 : Option Value) (l9 : Option Value) (st : List Value) (σ : sS), Rx E d 290 635 [some (.null), l1, l2, l3, l4, l5, l6, l7, l8, l9] st σ = Rx E d 290 636 [some (.null), l1, l2, l3, l4, l5, l6, l7, l8, l9] (.null :: st) σ) ∧
  (∀ (E : sV) (d : Nat) (l0 : Option Value) (l1 : Option Value) (l2 : Option Value) (l3 : Option Value) (l4 : Option Value) (l6 : Option Value) (l7 : Option Value) (l8 : Option Value) (l9 : Option Value) (x : Int32) (st : List Value) (σ : sS), Rx E d 290 636 [l0, l1, l2, l3, l4, some (.int x), l6, l7, l8, l9] st σ = Rx E d 290 638 [l0, l1, l2, l3, l4, some (.int x), l6, l7, l8, l9] (.int x :: st) σ) ∧
  (∀ (E : sV) (d : Nat) (l0 l1 l2 l3 l4 l5 l6 l7 l8 l9 : Option Value) (st : List Value) (σ : sS), Rx E d 290 638 [l0, l1, l2, l3, l4, l5, l6, l7, l8, l9] st σ = Rx E d 290 639 [l0, l1, l2, l3, l4, l5, l6, l7, l8, l9] (.int (1) :: st) σ) ∧
  (∀ (E : sV) (d : Nat) (l0 l1 l2 l3 l4 l5 l6 l7 l8 l9 : Option Value) (x y : Int32) (st : List Value) (σ : sS), Rx E d 290 639 [l0, l1, l2, l3, l4, l5, l6, l7, l8, l9] (.int y :: .int x :: st) σ = Rx E d 290 640 [l0, l1, l2, l3, l4, l5, l6, l7, l8, l9] (.int (x + y) :: st) σ) ∧
  (∀ (E : sV) (d : Nat) (l0 l1 l2 l3 l4 l5 l6 l7 l8 l9 : Option Value) (i : Int32) (a : Nat) (st : List Value) (σ : sS), Rx E d 290 640 [l0, l1, l2, l3, l4, l5, l6, l7, l8, l9] (.int i :: .ref a :: st) σ = (aldI .int σ.1 a i).bind (fun v => Rx E d 290 641 [l0, l1, l2, l3, l4, l5, l6, l7, l8, l9] (v :: st) σ)) ∧
  (∀ (E : sV) (d : Nat) (l1 : Option Value) (l2 : Option Value) (l3 : Option Value) (l4 : Option Value) (l5 : Option Value) (l6 : Option Value) (l7 : Option Value) (l8 : Option Value) (l9 : Option Value) (x : Nat) (st : List Value) (σ : sS), Rx E d 290 641 [some (.ref x), l1, l2, l3, l4, l5, l6, l7, l8, l9] st σ = Rx E d 290 642 [some (.ref x), l1, l2, l3, l4, l5, l6, l7, l8, l9] (.ref x :: st) σ) ∧
  (∀ (E : sV) (d : Nat) (l1 : Option Value) (l2 : Option Value) (l3 : Option Value) (l4 : Option Value) (l5 : Option Value) (l6 : Option Value) (l7 : Option Value) (l8 : Option Value) (l9 : Option Value) (st : List Value) (σ : sS), Rx E d 290 641 [some (.null), l1, l2, l3, l4, l5, l6, l7, l8, l9] st σ = Rx E d 290 642 [some (.null), l1, l2, l3, l4, l5, l6, l7, l8, l9] (.null :: st) σ) ∧
  (∀ (E : sV) (d : Nat) (l0 : Option Value) (l1 : Option Value) (l2 : Option Value) (l3 : Option Value) (l4 : Option Value) (l6 : Option Value) (l7 : Option Value) (l8 : Option Value) (l9 : Option Value) (x : Int32) (st : List Value) (σ : sS), Rx E d 290 642 [l0, l1, l2, l3, l4, some (.int x), l6, l7, l8, l9] st σ = Rx E d 290 644 [l0, l1, l2, l3, l4, some (.int x), l6, l7, l8, l9] (.int x :: st) σ) ∧
  (∀ (E : sV) (d : Nat) (l0 l1 l2 l3 l4 l5 l6 l7 l8 l9 : Option Value) (st : List Value) (σ : sS), Rx E d 290 644 [l0, l1, l2, l3, l4, l5, l6, l7, l8, l9] st σ = Rx E d 290 645 [l0, l1, l2, l3, l4, l5, l6, l7, l8, l9] (.int (2) :: st) σ) ∧
  (∀ (E : sV) (d : Nat) (l0 l1 l2 l3 l4 l5 l6 l7 l8 l9 : Option Value) (x y : Int32) (st : List Value) (σ : sS), Rx E d 290 645 [l0, l1, l2, l3, l4, l5, l6, l7, l8, l9] (.int y :: .int x :: st) σ = Rx E d 290 646 [l0, l1, l2, l3, l4, l5, l6, l7, l8, l9] (.int (x + y) :: st) σ) ∧
  (∀ (E : sV) (d : Nat) (l0 l1 l2 l3 l4 l5 l6 l7 l8 l9 : Option Value) (i : Int32) (a : Nat) (st : List Value) (σ : sS), Rx E d 290 646 [l0, l1, l2, l3, l4, l5, l6, l7, l8, l9] (.int i :: .ref a :: st) σ = (aldI .int σ.1 a i).bind (fun v => Rx E d 290 647 [l0, l1, l2, l3, l4, l5, l6, l7, l8, l9] (v :: st) σ)) ∧
  (∀ (E : sV) (d : Nat) (l0 l1 l2 l3 l4 l5 l6 l7 l8 l9 : Option Value) (x : Int32) (st : List Value) (σ : sS), Rx E d 290 647 [l0, l1, l2, l3, l4, l5, l6, l7, l8, l9] (.int x :: st) σ = Rx E d 290 648 [l0, l1, l2, l3, l4, l5, l6, l7, l8, l9] (.int (x.toUInt32 % 65536).toInt32 :: st) σ) ∧
  (∀ (E : sV) (d : Nat) (l1 : Option Value) (l2 : Option Value) (l3 : Option Value) (l4 : Option Value) (l5 : Option Value) (l6 : Option Value) (l7 : Option Value) (l8 : Option Value) (l9 : Option Value) (x : Nat) (st : List Value) (σ : sS), Rx E d 290 648 [some (.ref x), l1, l2, l3, l4, l5, l6, l7, l8, l9] st σ = Rx E d 290 649 [some (.ref x), l1, l2, l3, l4, l5, l6, l7, l8, l9] (.ref x :: st) σ) := ⟨fun _ _ _ _ _ _ _ _ _ _ _ _ _ _ _ => Rx_if gMT_290 d290_616 rfl rfl (by decide),
  fun _ _ _ _ _ _ _ _ _ _ _ _ _ _ => Rx_of gMT_290 d290_619 rfl,
  fun _ _ _ _ _ _ _ _ _ _ _ _ _ => Rx_of gMT_290 d290_619 rfl,
  fun _ _ _ _ _ _ _ _ _ _ _ _ _ _ => Rx_of gMT_290 d290_620 rfl,
  fun _ _ _ _ _ _ _ _ _ _ _ _ _ _ _ _ => Rx_ald gMT_290 d290_621 rfl rfl,
  fun _ _ _ _ _ _ _ _ _ _ _ _ _ _ => Rx_of gMT_290 d290_622 rfl,
  fun _ _ _ _ _ _ _ _ _ _ _ _ _ _ _ => Rx_of gMT_290 d290_624 rfl,
  fun _ _ _ _ _ _ _ _ _ _ _ _ _ _ _ _ => Rx_of gMT_290 d290_625 rfl,
  fun _ _ _ _ _ _ _ _ _ _ _ _ _ _ _ => Rx_if gMT_290 d290_626 rfl rfl (by decide),
  fun _ _ _ _ _ _ _ _ _ _ _ _ _ _ => Rx_of gMT_290 d290_629 rfl,
  fun _ _ _ _ _ _ _ _ _ _ _ _ _ => (Rx_iret gMT_290 d290_630 rfl rfl).trans (if_pos rfl),
  fun _ _ _ _ _ _ _ _ _ _ _ _ _ => (Rx_iret gMT_290 d290_630 rfl rfl).trans (if_pos rfl),
  fun _ _ _ _ _ _ _ _ _ _ _ _ _ _ => Rx_iret gMT_290 d290_630 rfl rfl,
  fun _ _ _ _ _ _ _ _ _ _ _ _ _ _ => Rx_goto gMT_290 d290_631 rfl (by decide),
  fun _ _ _ _ _ _ _ _ _ _ _ _ _ _ => Rx_of gMT_290 d290_634 rfl,
  fun _ _ _ _ _ _ _ _ _ _ _ _ _ => Rx_of gMT_290 d290_634 rfl,
  fun _ _ _ _ _ _ _ _ _ _ _ _ _ _ => Rx_of gMT_290 d290_635 rfl,
  fun _ _ _ _ _ _ _ _ _ _ _ _ _ => Rx_of gMT_290 d290_635 rfl,
  fun _ _ _ _ _ _ _ _ _ _ _ _ _ _ => Rx_of gMT_290 d290_636 rfl,
  fun _ _ _ _ _ _ _ _ _ _ _ _ _ _ => Rx_of gMT_290 d290_638 rfl,
  fun _ _ _ _ _ _ _ _ _ _ _ _ _ _ _ _ => Rx_of gMT_290 d290_639 rfl,
  fun _ _ _ _ _ _ _ _ _ _ _ _ _ _ _ _ => Rx_ald gMT_290 d290_640 rfl rfl,
  fun _ _ _ _ _ _ _ _ _ _ _ _ _ _ => Rx_of gMT_290 d290_641 rfl,
  fun _ _ _ _ _ _ _ _ _ _ _ _ _ => Rx_of gMT_290 d290_641 rfl,
  fun _ _ _ _ _ _ _ _ _ _ _ _ _ _ => Rx_of gMT_290 d290_642 rfl,
  fun _ _ _ _ _ _ _ _ _ _ _ _ _ _ => Rx_of gMT_290 d290_644 rfl,
  fun _ _ _ _ _ _ _ _ _ _ _ _ _ _ _ _ => Rx_of gMT_290 d290_645 rfl,
  fun _ _ _ _ _ _ _ _ _ _ _ _ _ _ _ _ => Rx_ald gMT_290 d290_646 rfl rfl,
  fun _ _ _ _ _ _ _ _ _ _ _ _ _ _ _ => Rx_of gMT_290 d290_647 rfl,
  fun _ _ _ _ _ _ _ _ _ _ _ _ _ _ => Rx_of gMT_290 d290_648 rfl⟩
theorem QLaw_law_14 : (∀ (E : sV) (d : Nat) (l1 : Option Value) (l2 : Option Value) (l3 : Option Value) (l4 : Option Value) (l5 : Option Value) (l6 : Option Value) (l7 : Option Value) (l8 : Option Value) (l9 : Option Value) (st : List Value) (σ : sS), Rx E d 290 648 [some (.null), l1, l2, l3, l4, l5, l6, l7, l8, l9] st σ = Rx E d 290 649 [some (.null), l1, l2, l3, l4, l5, l6, l7, l8, l9] (.null :: st) σ) ∧
  (∀ (E : sV) (d : Nat) (l0 : Option Value) (l1 : Option Value) (l2 : Option Value) (l3 : Option Value) (l4 : Option Value) (l6 : Option Value) (l7 : Option Value) (l8 : Option Value) (l9 : Option Value) (x : Int32) (st : List Value) (σ : sS), Rx E d 290 649 [l0, l1, l2, l3, l4, some (.int x), l6, l7, l8, l9] st σ = Rx E d 290 651 [l0, l1, l2, l3, l4, some (.int x), l6, l7, l8, l9] (.int x :: st) σ) ∧
  (∀ (E : sV) (d : Nat) (l0 l1 l2 l3 l4 l5 l6 l7 l8 l9 : Option Value) (st : List Value) (σ : sS), Rx E d 290 651 [l0, l1, l2, l3, l4, l5, l6, l7, l8, l9] st σ = Rx E d 290 652 [l0, l1, l2, l3, l4, l5, l6, l7, l8, l9] (.int (3) :: st) σ) ∧
  (∀ (E : sV) (d : Nat) (l0 l1 l2 l3 l4 l5 l6 l7 l8 l9 : Option Value) (x y : Int32) (st : List Value) (σ : sS), Rx E d 290 652 [l0, l1, l2, l3, l4, l5, l6, l7, l8, l9] (.int y :: .int x :: st) σ = Rx E d 290 653 [l0, l1, l2, l3, l4, l5, l6, l7, l8, l9] (.int (x + y) :: st) σ) ∧
  (∀ (E : sV) (d : Nat) (l0 l1 l2 l3 l4 l5 l6 l7 l8 l9 : Option Value) (i : Int32) (a : Nat) (st : List Value) (σ : sS), Rx E d 290 653 [l0, l1, l2, l3, l4, l5, l6, l7, l8, l9] (.int i :: .ref a :: st) σ = (aldI .int σ.1 a i).bind (fun v => Rx E d 290 654 [l0, l1, l2, l3, l4, l5, l6, l7, l8, l9] (v :: st) σ)) ∧
  (∀ (E : sV) (d : Nat) (l0 : Option Value) (l1 : Option Value) (l2 : Option Value) (l4 : Option Value) (l5 : Option Value) (l6 : Option Value) (l7 : Option Value) (l8 : Option Value) (l9 : Option Value) (x : Nat) (st : List Value) (σ : sS), Rx E d 290 654 [l0, l1, l2, some (.ref x), l4, l5, l6, l7, l8, l9] st σ = Rx E d 290 655 [l0, l1, l2, some (.ref x), l4, l5, l6, l7, l8, l9] (.ref x :: st) σ) ∧
  (∀ (E : sV) (d : Nat) (l0 : Option Value) (l1 : Option Value) (l2 : Option Value) (l4 : Option Value) (l5 : Option Value) (l6 : Option Value) (l7 : Option Value) (l8 : Option Value) (l9 : Option Value) (st : List Value) (σ : sS), Rx E d 290 654 [l0, l1, l2, some (.null), l4, l5, l6, l7, l8, l9] st σ = Rx E d 290 655 [l0, l1, l2, some (.null), l4, l5, l6, l7, l8, l9] (.null :: st) σ) ∧
  (∀ (E : sV) (d : Nat) (l0 l1 l2 l3 l4 l5 l6 l7 l8 l9 : Option Value) (v1 v2 v3 v4 v5 : Value) (st : List Value) (σ : sS), Rx E d 290 655 [l0, l1, l2, l3, l4, l5, l6, l7, l8, l9] (v5 :: v4 :: v3 :: v2 :: v1 :: st) σ = if cats st ≤ 8 then callK (Mt E d 252 [v1, v2, v3, v4, v5] σ) (fun v σ => Rx E d 290 658 [l0, l1, l2, l3, l4, l5, l6, l7, l8, l9] (v.toList ++ st) σ) else none) ∧
  (∀ (E : sV) (d : Nat) (l0 l1 l2 l3 l4 l5 l6 l7 l8 l9 : Option Value) (x : Int32) (st : List Value) (σ : sS), Rx E d 290 658 [l0, l1, l2, l3, l4, l5, l6, l7, l8, l9] (.int x :: st) σ = Rx E d 290 660 [l0, l1, l2, l3, l4, ldrop l5, some (.int x), l7, l8, l9] st σ) ∧
  (∀ (E : sV) (d : Nat) (l0 : Option Value) (l1 : Option Value) (l3 : Option Value) (l4 : Option Value) (l5 : Option Value) (l6 : Option Value) (l7 : Option Value) (l8 : Option Value) (l9 : Option Value) (x : Nat) (st : List Value) (σ : sS), Rx E d 290 660 [l0, l1, some (.ref x), l3, l4, l5, l6, l7, l8, l9] st σ = Rx E d 290 661 [l0, l1, some (.ref x), l3, l4, l5, l6, l7, l8, l9] (.ref x :: st) σ) ∧
  (∀ (E : sV) (d : Nat) (l0 : Option Value) (l1 : Option Value) (l3 : Option Value) (l4 : Option Value) (l5 : Option Value) (l6 : Option Value) (l7 : Option Value) (l8 : Option Value) (l9 : Option Value) (st : List Value) (σ : sS), Rx E d 290 660 [l0, l1, some (.null), l3, l4, l5, l6, l7, l8, l9] st σ = Rx E d 290 661 [l0, l1, some (.null), l3, l4, l5, l6, l7, l8, l9] (.null :: st) σ) ∧
  (∀ (E : sV) (d : Nat) (l1 : Option Value) (l2 : Option Value) (l3 : Option Value) (l4 : Option Value) (l5 : Option Value) (l6 : Option Value) (l7 : Option Value) (l8 : Option Value) (l9 : Option Value) (x : Nat) (st : List Value) (σ : sS), Rx E d 290 661 [some (.ref x), l1, l2, l3, l4, l5, l6, l7, l8, l9] st σ = Rx E d 290 662 [some (.ref x), l1, l2, l3, l4, l5, l6, l7, l8, l9] (.ref x :: st) σ) ∧
  (∀ (E : sV) (d : Nat) (l1 : Option Value) (l2 : Option Value) (l3 : Option Value) (l4 : Option Value) (l5 : Option Value) (l6 : Option Value) (l7 : Option Value) (l8 : Option Value) (l9 : Option Value) (st : List Value) (σ : sS), Rx E d 290 661 [some (.null), l1, l2, l3, l4, l5, l6, l7, l8, l9] st σ = Rx E d 290 662 [some (.null), l1, l2, l3, l4, l5, l6, l7, l8, l9] (.null :: st) σ) ∧
  (∀ (E : sV) (d : Nat) (l0 : Option Value) (l1 : Option Value) (l2 : Option Value) (l3 : Option Value) (l4 : Option Value) (l6 : Option Value) (l7 : Option Value) (l8 : Option Value) (l9 : Option Value) (x : Int32) (st : List Value) (σ : sS), Rx E d 290 662 [l0, l1, l2, l3, l4, some (.int x), l6, l7, l8, l9] st σ = Rx E d 290 664 [l0, l1, l2, l3, l4, some (.int x), l6, l7, l8, l9] (.int x :: st) σ) ∧
  (∀ (E : sV) (d : Nat) (l0 l1 l2 l3 l4 l5 l6 l7 l8 l9 : Option Value) (st : List Value) (σ : sS), Rx E d 290 664 [l0, l1, l2, l3, l4, l5, l6, l7, l8, l9] st σ = Rx E d 290 665 [l0, l1, l2, l3, l4, l5, l6, l7, l8, l9] (.int (1) :: st) σ) ∧
  (∀ (E : sV) (d : Nat) (l0 l1 l2 l3 l4 l5 l6 l7 l8 l9 : Option Value) (x y : Int32) (st : List Value) (σ : sS), Rx E d 290 665 [l0, l1, l2, l3, l4, l5, l6, l7, l8, l9] (.int y :: .int x :: st) σ = Rx E d 290 666 [l0, l1, l2, l3, l4, l5, l6, l7, l8, l9] (.int (x + y) :: st) σ) ∧
  (∀ (E : sV) (d : Nat) (l0 l1 l2 l3 l4 l5 l6 l7 l8 l9 : Option Value) (i : Int32) (a : Nat) (st : List Value) (σ : sS), Rx E d 290 666 [l0, l1, l2, l3, l4, l5, l6, l7, l8, l9] (.int i :: .ref a :: st) σ = (aldI .int σ.1 a i).bind (fun v => Rx E d 290 667 [l0, l1, l2, l3, l4, l5, l6, l7, l8, l9] (v :: st) σ)) ∧
  (∀ (E : sV) (d : Nat) (l1 : Option Value) (l2 : Option Value) (l3 : Option Value) (l4 : Option Value) (l5 : Option Value) (l6 : Option Value) (l7 : Option Value) (l8 : Option Value) (l9 : Option Value) (x : Nat) (st : List Value) (σ : sS), Rx E d 290 667 [some (.ref x), l1, l2, l3, l4, l5, l6, l7, l8, l9] st σ = Rx E d 290 668 [some (.ref x), l1, l2, l3, l4, l5, l6, l7, l8, l9] (.ref x :: st) σ) ∧
  (∀ (E : sV) (d : Nat) (l1 : Option Value) (l2 : Option Value) (l3 : Option Value) (l4 : Option Value) (l5 : Option Value) (l6 : Option Value) (l7 : Option Value) (l8 : Option Value) (l9 : Option Value) (st : List Value) (σ : sS), Rx E d 290 667 [some (.null), l1, l2, l3, l4, l5, l6, l7, l8, l9] st σ = Rx E d 290 668 [some (.null), l1, l2, l3, l4, l5, l6, l7, l8, l9] (.null :: st) σ) ∧
  (∀ (E : sV) (d : Nat) (l0 : Option Value) (l1 : Option Value) (l2 : Option Value) (l3 : Option Value) (l4 : Option Value) (l6 : Option Value) (l7 : Option Value) (l8 : Option Value) (l9 : Option Value) (x : Int32) (st : List Value) (σ : sS), Rx E d 290 668 [l0, l1, l2, l3, l4, some (.int x), l6, l7, l8, l9] st σ = Rx E d 290 670 [l0, l1, l2, l3, l4, some (.int x), l6, l7, l8, l9] (.int x :: st) σ) ∧
  (∀ (E : sV) (d : Nat) (l0 l1 l2 l3 l4 l5 l6 l7 l8 l9 : Option Value) (st : List Value) (σ : sS), Rx E d 290 670 [l0, l1, l2, l3, l4, l5, l6, l7, l8, l9] st σ = Rx E d 290 671 [l0, l1, l2, l3, l4, l5, l6, l7, l8, l9] (.int (2) :: st) σ) ∧
  (∀ (E : sV) (d : Nat) (l0 l1 l2 l3 l4 l5 l6 l7 l8 l9 : Option Value) (x y : Int32) (st : List Value) (σ : sS), Rx E d 290 671 [l0, l1, l2, l3, l4, l5, l6, l7, l8, l9] (.int y :: .int x :: st) σ = Rx E d 290 672 [l0, l1, l2, l3, l4, l5, l6, l7, l8, l9] (.int (x + y) :: st) σ) ∧
  (∀ (E : sV) (d : Nat) (l0 l1 l2 l3 l4 l5 l6 l7 l8 l9 : Option Value) (i : Int32) (a : Nat) (st : List Value) (σ : sS), Rx E d 290 672 [l0, l1, l2, l3, l4, l5, l6, l7, l8, l9] (.int i :: .ref a :: st) σ = (aldI .int σ.1 a i).bind (fun v => Rx E d 290 673 [l0, l1, l2, l3, l4, l5, l6, l7, l8, l9] (v :: st) σ)) ∧
  (∀ (E : sV) (d : Nat) (l0 l1 l2 l3 l4 l5 l6 l7 l8 l9 : Option Value) (x : Int32) (st : List Value) (σ : sS), Rx E d 290 673 [l0, l1, l2, l3, l4, l5, l6, l7, l8, l9] (.int x :: st) σ = Rx E d 290 674 [l0, l1, l2, l3, l4, l5, l6, l7, l8, l9] (.int (x.toUInt32 % 65536).toInt32 :: st) σ) ∧
  (∀ (E : sV) (d : Nat) (l1 : Option Value) (l2 : Option Value) (l3 : Option Value) (l4 : Option Value) (l5 : Option Value) (l6 : Option Value) (l7 : Option Value) (l8 : Option Value) (l9 : Option Value) (x : Nat) (st : List Value) (σ : sS), Rx E d 290 674 [some (.ref x), l1, l2, l3, l4, l5, l6, l7, l8, l9] st σ = Rx E d 290 675 [some (.ref x), l1, l2, l3, l4, l5, l6, l7, l8, l9] (.ref x :: st) σ) ∧
  (∀ (E : sV) (d : Nat) (l1 : Option Value) (l2 : Option Value) (l3 : Option Value) (l4 : Option Value) (l5 : Option Value) (l6 : Option Value) (l7 : Option Value) (l8 : Option Value) (l9 : Option Value) (st : List Value) (σ : sS), Rx E d 290 674 [some (.null), l1, l2, l3, l4, l5, l6, l7, l8, l9] st σ = Rx E d 290 675 [some (.null), l1, l2, l3, l4, l5, l6, l7, l8, l9] (.null :: st) σ) ∧
  (∀ (E : sV) (d : Nat) (l0 : Option Value) (l1 : Option Value) (l2 : Option Value) (l3 : Option Value) (l4 : Option Value) (l6 : Option Value) (l7 : Option Value) (l8 : Option Value) (l9 : Option Value) (x : Int32) (st : List Value) (σ : sS), Rx E d 290 675 [l0, l1, l2, l3, l4, some (.int x), l6, l7, l8, l9] st σ = Rx E d 290 677 [l0, l1, l2, l3, l4, some (.int x), l6, l7, l8, l9] (.int x :: st) σ) ∧
  (∀ (E : sV) (d : Nat) (l0 l1 l2 l3 l4 l5 l6 l7 l8 l9 : Option Value) (st : List Value) (σ : sS), Rx E d 290 677 [l0, l1, l2, l3, l4, l5, l6, l7, l8, l9] st σ = Rx E d 290 678 [l0, l1, l2, l3, l4, l5, l6, l7, l8, l9] (.int (3) :: st) σ) ∧
  (∀ (E : sV) (d : Nat) (l0 l1 l2 l3 l4 l5 l6 l7 l8 l9 : Option Value) (x y : Int32) (st : List Value) (σ : sS), Rx E d 290 678 [l0, l1, l2, l3, l4, l5, l6, l7, l8, l9] (.int y :: .int x :: st) σ = Rx E d 290 679 [l0, l1, l2, l3, l4, l5, l6, l7, l8, l9] (.int (x + y) :: st) σ) ∧
  (∀ (E : sV) (d : Nat) (l0 l1 l2 l3 l4 l5 l6 l7 l8 l9 : Option Value) (i : Int32) (a : Nat) (st : List Value) (σ : sS), Rx E d 290 679 [l0, l1, l2, l3, l4, l5, l6, l7, l8, l9] (.int i :: .ref a :: st) σ = (aldI .int σ.1 a i).bind (fun v => Rx E d 290 680 [l0, l1, l2, l3, l4, l5, l6, l7, l8, l9] (v :: st) σ)) := ⟨fun _ _ _ _ _ _ _ _ _ _ _ _ _ => Rx_of gMT_290 d290_648 rfl,
  fun _ _ _ _ _ _ _ _ _ _ _ _ _ _ => Rx_of gMT_290 d290_649 rfl,
  fun _ _ _ _ _ _ _ _ _ _ _ _ _ _ => Rx_of gMT_290 d290_651 rfl,
  fun _ _ _ _ _ _ _ _ _ _ _ _ _ _ _ _ => Rx_of gMT_290 d290_652 rfl,
  fun _ _ _ _ _ _ _ _ _ _ _ _ _ _ _ _ => Rx_ald gMT_290 d290_653 rfl rfl,
  fun _ _ _ _ _ _ _ _ _ _ _ _ _ _ => Rx_of gMT_290 d290_654 rfl,
  fun _ _ _ _ _ _ _ _ _ _ _ _ _ => Rx_of gMT_290 d290_654 rfl,
  fun _ _ _ _ _ _ _ _ _ _ _ _ _ _ _ _ _ _ _ => Rx_callS gMT_290 d290_655 rfl rfl rfl rfl rfl,
  fun _ _ _ _ _ _ _ _ _ _ _ _ _ _ _ => Rx_of gMT_290 d290_658 rfl,
  fun _ _ _ _ _ _ _ _ _ _ _ _ _ _ => Rx_of gMT_290 d290_660 rfl,
  fun _ _ _ _ _ _ _ _ _ _ _ _ _ => Rx_of gMT_290 d290_660 rfl,
  fun _ _ _ _ _ _ _ _ _ _ _ _ _ _ => Rx_of gMT_290 d290_661 rfl,
  fun _ _ _ _ _ _ _ _ _ _ _ _ _ => Rx_of gMT_290 d290_661 rfl,
  fun _ _ _ _ _ _ _ _ _ _ _ _ _ _ => Rx_of gMT_290 d290_662 rfl,
  fun _ _ _ _ _ _ _ _ _ _ _ _ _ _ => Rx_of gMT_290 d290_664 rfl,
  fun _ _ _ _ _ _ _ _ _ _ _ _ _ _ _ _ => Rx_of gMT_290 d290_665 rfl,
  fun _ _ _ _ _ _ _ _ _ _ _ _ _ _ _ _ => Rx_ald gMT_290 d290_666 rfl rfl,
  fun _ _ _ _ _ _ _ _ _ _ _ _ _ _ => Rx_of gMT_290 d290_667 rfl,
  fun _ _ _ _ _ _ _ _ _ _ _ _ _ => Rx_of gMT_290 d290_667 rfl,
  fun _ _ _ _ _ _ _ _ _ _ _ _ _ _ => Rx_of gMT_290 d290_668 rfl,
  fun _ _ _ _ _ _ _ _ _ _ _ _ _ _ => Rx_of gMT_290 d290_670 rfl,
  fun _ _ _ _ _ _ _ _ _ _ _ _ _ _ _ _ => Rx_of gMT_290 d290_671 rfl,
  fun _ _ _ _ _ _ _ _ _ _ _ _ _ _ _ _ => Rx_ald gMT_290 d290_672 rfl rfl,
  fun _ _ _ _ _ _ _ _ _ _ _ _ _ _ _ => Rx_of gMT_290 d290_673 rfl,
  fun _ _ _ _ _ _ _ _ _ _ _ _ _ _ => Rx_of gMT_290 d290_674 rfl,
  fun _ _ _ _ _ _ _ _ _ _ _ _ _ => Rx_of gMT_290 d290_674 rfl,
  fun _ _ _ _ _ _ _ _ _ _ _ _ _ _ => Rx_of gMT_290 d290_675 rfl,
  fun _ _ _ _ _ _ _ _ _ _ _ _ _ _ => Rx_of gMT_290 d290_677 rfl,
  fun _ _ _ _ _ _ _ _ _ _ _ _ _ _ _ _ => Rx_of gMT_290 d290_678 rfl,
  fun _ _ _ _ _ _ _ _ _ _ _ _ _ _ _ _ => Rx_ald gMT_290 d290_679 rfl rfl⟩
theorem QLaw_law_15 : (∀ (E : sV) (d : Nat) (l0 l1 l2 l3 l4 l5 l6 l7 l8 l9 : Option Value) (v1 v2 v3 : Value) (b : Nat) (st : List Value) (σ : sS), Rx E d 290 680 [l0, l1, l2, l3, l4, l5, l6, l7, l8, l9] (v3 :: v2 :: v1 :: .ref b :: st) σ = if cats st ≤ 8 ∧ isOb σ.1 b 8 = true then callK (Mt E d 154 [.ref b, v1, v2, v3] σ) (fun v σ => Rx E d 290 683 [l0, l1, l2, l3, l4, l5, l6, l7, l8, l9] (v.toList ++ st) σ) else none) ∧
  (∀ (E : sV) (d : Nat) (l0 l1 l2 l3 l4 l5 l6 l7 l8 l9 : Option Value) (x : Int32) (st : List Value) (σ : sS), Rx E d 290 683 [l0, l1, l2, l3, l4, l5, l6, l7, l8, l9] (.int x :: st) σ = Rx E d 290 685 [l0, l1, l2, l3, l4, l5, ldrop l6, some (.int x), l8, l9] st σ) ∧
  (∀ (E : sV) (d : Nat) (l0 : Option Value) (l1 : Option Value) (l3 : Option Value) (l4 : Option Value) (l5 : Option Value) (l6 : Option Value) (l7 : Option Value) (l8 : Option Value) (l9 : Option Value) (x : Nat) (st : List Value) (σ : sS), Rx E d 290 685 [l0, l1, some (.ref x), l3, l4, l5, l6, l7, l8, l9] st σ = Rx E d 290 686 [l0, l1, some (.ref x), l3, l4, l5, l6, l7, l8, l9] (.ref x :: st) σ) ∧
  (∀ (E : sV) (d : Nat) (l0 : Option Value) (l1 : Option Value) (l3 : Option Value) (l4 : Option Value) (l5 : Option Value) (l6 : Option Value) (l7 : Option Value) (l8 : Option Value) (l9 : Option Value) (st : List Value) (σ : sS), Rx E d 290 685 [l0, l1, some (.null), l3, l4, l5, l6, l7, l8, l9] st σ = Rx E d 290 686 [l0, l1, some (.null), l3, l4, l5, l6, l7, l8, l9] (.null :: st) σ) ∧
  (∀ (E : sV) (d : Nat) (l0 l1 l2 l3 l4 l5 l6 l7 l8 l9 : Option Value) (b : Nat) (st : List Value) (σ : sS), Rx E d 290 686 [l0, l1, l2, l3, l4, l5, l6, l7, l8, l9] (.ref b :: st) σ = if cats st ≤ 8 ∧ isOb σ.1 b 8 = true then callK (Mt E d 128 [.ref b] σ) (fun v σ => Rx E d 290 689 [l0, l1, l2, l3, l4, l5, l6, l7, l8, l9] (v.toList ++ st) σ) else none) ∧
  (∀ (E : sV) (d : Nat) (l0 : Option Value) (l1 : Option Value) (l2 : Option Value) (l3 : Option Value) (l4 : Option Value) (l5 : Option Value) (l7 : Option Value) (l8 : Option Value) (l9 : Option Value) (x : Int32) (st : List Value) (σ : sS), Rx E d 290 689 [l0, l1, l2, l3, l4, l5, some (.int x), l7, l8, l9] st σ = Rx E d 290 691 [l0, l1, l2, l3, l4, l5, some (.int x), l7, l8, l9] (.int x :: st) σ) ∧
  (∀ (E : sV) (d : Nat) (l0 l1 l2 l3 l4 l5 l6 l7 l8 l9 : Option Value) (x y : Int32) (st : List Value) (σ : sS), Rx E d 290 691 [l0, l1, l2, l3, l4, l5, l6, l7, l8, l9] (.int y :: .int x :: st) σ = if x = y then Rx E d 290 696 [l0, l1, l2, l3, l4, l5, l6, l7, l8, l9] st σ else Rx E d 290 694 [l0, l1, l2, l3, l4, l5, l6, l7, l8, l9] st σ) ∧
  (∀ (E : sV) (d : Nat) (l0 l1 l2 l3 l4 l5 l6 l7 l8 l9 : Option Value) (st : List Value) (σ : sS), Rx E d 290 694 [l0, l1, l2, l3, l4, l5, l6, l7, l8, l9] st σ = Rx E d 290 695 [l0, l1, l2, l3, l4, l5, l6, l7, l8, l9] (.int (0) :: st) σ) ∧
  (∀ (E : sV) (d : Nat) (l0 l1 l2 l3 l4 l5 l6 l7 l8 l9 : Option Value) (σ : sS), Rx E d 290 695 [l0, l1, l2, l3, l4, l5, l6, l7, l8, l9] [.int 0] σ = some (.inl (some (.int 0)), σ)) ∧
  (∀ (E : sV) (d : Nat) (l0 l1 l2 l3 l4 l5 l6 l7 l8 l9 : Option Value) (σ : sS), Rx E d 290 695 [l0, l1, l2, l3, l4, l5, l6, l7, l8, l9] [.int 1] σ = some (.inl (some (.int 1)), σ)) ∧
  (∀ (E : sV) (d : Nat) (l0 l1 l2 l3 l4 l5 l6 l7 l8 l9 : Option Value) (v : Int32) (σ : sS), Rx E d 290 695 [l0, l1, l2, l3, l4, l5, l6, l7, l8, l9] [.int v] σ = if narrow .boolean (.int v) = .int v then some (.inl (some (.int v)), σ) else none) ∧
  (∀ (E : sV) (d : Nat) (l0 : Option Value) (l1 : Option Value) (l2 : Option Value) (l3 : Option Value) (l4 : Option Value) (l5 : Option Value) (l7 : Option Value) (l8 : Option Value) (l9 : Option Value) (x : Int32) (st : List Value) (σ : sS), Rx E d 290 696 [l0, l1, l2, l3, l4, l5, some (.int x), l7, l8, l9] st σ = Rx E d 290 698 [l0, l1, l2, l3, l4, l5, some (.int x), l7, l8, l9] (.int x :: st) σ) ∧
  (∀ (E : sV) (d : Nat) (l0 l1 l2 l3 l4 l5 l6 l7 l8 l9 : Option Value) (x : Int32) (st : List Value) (σ : sS), Rx E d 290 698 [l0, l1, l2, l3, l4, l5, l6, l7, l8, l9] (.int x :: st) σ = if ¬ x = 0 then Rx E d 290 713 [l0, l1, l2, l3, l4, l5, l6, l7, l8, l9] st σ else Rx E d 290 701 [l0, l1, l2, l3, l4, l5, l6, l7, l8, l9] st σ) ∧
  (∀ (E : sV) (d : Nat) (l0 : Option Value) (l1 : Option Value) (l2 : Option Value) (l4 : Option Value) (l5 : Option Value) (l6 : Option Value) (l7 : Option Value) (l8 : Option Value) (l9 : Option Value) (x : Nat) (st : List Value) (σ : sS), Rx E d 290 701 [l0, l1, l2, some (.ref x), l4, l5, l6, l7, l8, l9] st σ = Rx E d 290 702 [l0, l1, l2, some (.ref x), l4, l5, l6, l7, l8, l9] (.ref x :: st) σ) ∧
  (∀ (E : sV) (d : Nat) (l0 : Option Value) (l1 : Option Value) (l2 : Option Value) (l4 : Option Value) (l5 : Option Value) (l6 : Option Value) (l7 : Option Value) (l8 : Option Value) (l9 : Option Value) (st : List Value) (σ : sS), Rx E d 290 701 [l0, l1, l2, some (.null), l4, l5, l6, l7, l8, l9] st σ = Rx E d 290 702 [l0, l1, l2, some (.null), l4, l5, l6, l7, l8, l9] (.null :: st) σ) ∧
  (∀ (E : sV) (d : Nat) (l0 l1 l2 l3 l4 l5 l6 l7 l8 l9 : Option Value) (st : List Value) (σ : sS), Rx E d 290 702 [l0, l1, l2, l3, l4, l5, l6, l7, l8, l9] st σ = Rx E d 290 703 [l0, l1, l2, l3, l4, l5, l6, l7, l8, l9] (.int (0) :: st) σ) ∧
  (∀ (E : sV) (d : Nat) (l0 l1 l2 l3 l4 l5 l6 l7 l8 l9 : Option Value) (i : Int32) (a : Nat) (st : List Value) (σ : sS), Rx E d 290 703 [l0, l1, l2, l3, l4, l5, l6, l7, l8, l9] (.int i :: .ref a :: st) σ = (aldL σ.1 a i).bind (fun v => Rx E d 290 704 [l0, l1, l2, l3, l4, l5, l6, l7, l8, l9] (v :: st) σ)) ∧
  (∀ (E : sV) (d : Nat) (l0 : Option Value) (l1 : Option Value) (l2 : Option Value) (l3 : Option Value) (l4 : Option Value) (l5 : Option Value) (l6 : Option Value) (l8 : Option Value) (l9 : Option Value) (x : Int32) (st : List Value) (σ : sS), Rx E d 290 704 [l0, l1, l2, l3, l4, l5, l6, some (.int x), l8, l9] st σ = Rx E d 290 706 [l0, l1, l2, l3, l4, l5, l6, some (.int x), l8, l9] (.int x :: st) σ) ∧
  (∀ (E : sV) (d : Nat) (l0 l1 l2 l3 l4 l5 l6 l7 l8 l9 : Option Value) (x : Int32) (st : List Value) (σ : sS), Rx E d 290 706 [l0, l1, l2, l3, l4, l5, l6, l7, l8, l9] (.int x :: st) σ = Rx E d 290 707 [l0, l1, l2, l3, l4, l5, l6, l7, l8, l9] (.long x.toInt64 :: st) σ) ∧
  (∀ (E : sV) (d : Nat) (l0 l1 l2 l3 l4 l5 l6 l7 l8 l9 : Option Value) (x y : Int64) (st : List Value) (σ : sS), Rx E d 290 707 [l0, l1, l2, l3, l4, l5, l6, l7, l8, l9] (.long y :: .long x :: st) σ = Rx E d 290 708 [l0, l1, l2, l3, l4, l5, l6, l7, l8, l9] (.int (lg_cmp x y) :: st) σ) ∧
  (∀ (E : sV) (d : Nat) (l0 l1 l2 l3 l4 l5 l6 l7 l8 l9 : Option Value) (x : Int32) (st : List Value) (σ : sS), Rx E d 290 708 [l0, l1, l2, l3, l4, l5, l6, l7, l8, l9] (.int x :: st) σ = if x = 0 then Rx E d 290 713 [l0, l1, l2, l3, l4, l5, l6, l7, l8, l9] st σ else Rx E d 290 711 [l0, l1, l2, l3, l4, l5, l6, l7, l8, l9] st σ) ∧
  (∀ (E : sV) (d : Nat) (l0 l1 l2 l3 l4 l5 l6 l7 l8 l9 : Option Value) (st : List Value) (σ : sS), Rx E d 290 711 [l0, l1, l2, l3, l4, l5, l6, l7, l8, l9] st σ = Rx E d 290 712 [l0, l1, l2, l3, l4, l5, l6, l7, l8, l9] (.int (0) :: st) σ) ∧
  (∀ (E : sV) (d : Nat) (l0 l1 l2 l3 l4 l5 l6 l7 l8 l9 : Option Value) (σ : sS), Rx E d 290 712 [l0, l1, l2, l3, l4, l5, l6, l7, l8, l9] [.int 0] σ = some (.inl (some (.int 0)), σ)) ∧
  (∀ (E : sV) (d : Nat) (l0 l1 l2 l3 l4 l5 l6 l7 l8 l9 : Option Value) (σ : sS), Rx E d 290 712 [l0, l1, l2, l3, l4, l5, l6, l7, l8, l9] [.int 1] σ = some (.inl (some (.int 1)), σ)) ∧
  (∀ (E : sV) (d : Nat) (l0 l1 l2 l3 l4 l5 l6 l7 l8 l9 : Option Value) (v : Int32) (σ : sS), Rx E d 290 712 [l0, l1, l2, l3, l4, l5, l6, l7, l8, l9] [.int v] σ = if narrow .boolean (.int v) = .int v then some (.inl (some (.int v)), σ) else none) ∧
  (∀ (E : sV) (d : Nat) (l0 l1 l2 l3 l4 l5 l6 l7 l8 l9 : Option Value) (st : List Value) (σ : sS), Rx E d 290 713 [l0, l1, l2, l3, l4, l5, l6, l7, l8, l9] st σ = Rx E d 290 3001 [l0, l1, l2, l3, l4, l5, l6, l7, l8, l9] st σ) ∧
  (∀ (E : sV) (d : Nat) (l0 : Option Value) (l2 : Option Value) (l3 : Option Value) (l4 : Option Value) (l5 : Option Value) (l6 : Option Value) (l7 : Option Value) (l8 : Option Value) (l9 : Option Value) (x : Nat) (st : List Value) (σ : sS), Rx E d 290 716 [l0, some (.ref x), l2, l3, l4, l5, l6, l7, l8, l9] st σ = Rx E d 290 717 [l0, some (.ref x), l2, l3, l4, l5, l6, l7, l8, l9] (.ref x :: st) σ) ∧
  (∀ (E : sV) (d : Nat) (l0 : Option Value) (l2 : Option Value) (l3 : Option Value) (l4 : Option Value) (l5 : Option Value) (l6 : Option Value) (l7 : Option Value) (l8 : Option Value) (l9 : Option Value) (st : List Value) (σ : sS), Rx E d 290 716 [l0, some (.null), l2, l3, l4, l5, l6, l7, l8, l9] st σ = Rx E d 290 717 [l0, some (.null), l2, l3, l4, l5, l6, l7, l8, l9] (.null :: st) σ) ∧
  (∀ (E : sV) (d : Nat) (l1 : Option Value) (l2 : Option Value) (l3 : Option Value) (l4 : Option Value) (l5 : Option Value) (l6 : Option Value) (l7 : Option Value) (l8 : Option Value) (l9 : Option Value) (x : Nat) (st : List Value) (σ : sS), Rx E d 290 717 [some (.ref x), l1, l2, l3, l4, l5, l6, l7, l8, l9] st σ = Rx E d 290 718 [some (.ref x), l1, l2, l3, l4, l5, l6, l7, l8, l9] (.ref x :: st) σ) ∧
  (∀ (E : sV) (d : Nat) (l1 : Option Value) (l2 : Option Value) (l3 : Option Value) (l4 : Option Value) (l5 : Option Value) (l6 : Option Value) (l7 : Option Value) (l8 : Option Value) (l9 : Option Value) (st : List Value) (σ : sS), Rx E d 290 717 [some (.null), l1, l2, l3, l4, l5, l6, l7, l8, l9] st σ = Rx E d 290 718 [some (.null), l1, l2, l3, l4, l5, l6, l7, l8, l9] (.null :: st) σ) := ⟨fun _ _ _ _ _ _ _ _ _ _ _ _ _ _ _ _ _ _ => Rx_callV gMT_290 d290_680 rfl rfl rfl rfl rfl,
  fun _ _ _ _ _ _ _ _ _ _ _ _ _ _ _ => Rx_of gMT_290 d290_683 rfl,
  fun _ _ _ _ _ _ _ _ _ _ _ _ _ _ => Rx_of gMT_290 d290_685 rfl,
  fun _ _ _ _ _ _ _ _ _ _ _ _ _ => Rx_of gMT_290 d290_685 rfl,
  fun _ _ _ _ _ _ _ _ _ _ _ _ _ _ _ => Rx_callV gMT_290 d290_686 rfl rfl rfl rfl rfl,
  fun _ _ _ _ _ _ _ _ _ _ _ _ _ _ => Rx_of gMT_290 d290_689 rfl,
  fun _ _ _ _ _ _ _ _ _ _ _ _ _ _ _ _ => Rx_icmp gMT_290 d290_691 rfl rfl (by decide),
  fun _ _ _ _ _ _ _ _ _ _ _ _ _ _ => Rx_of gMT_290 d290_694 rfl,
  fun _ _ _ _ _ _ _ _ _ _ _ _ _ => (Rx_iret gMT_290 d290_695 rfl rfl).trans (if_pos rfl),
  fun _ _ _ _ _ _ _ _ _ _ _ _ _ => (Rx_iret gMT_290 d290_695 rfl rfl).trans (if_pos rfl),
  fun _ _ _ _ _ _ _ _ _ _ _ _ _ _ => Rx_iret gMT_290 d290_695 rfl rfl,
  fun _ _ _ _ _ _ _ _ _ _ _ _ _ _ => Rx_of gMT_290 d290_696 rfl,
  fun _ _ _ _ _ _ _ _ _ _ _ _ _ _ _ => Rx_if gMT_290 d290_698 rfl rfl (by decide),
  fun _ _ _ _ _ _ _ _ _ _ _ _ _ _ => Rx_of gMT_290 d290_701 rfl,
  fun _ _ _ _ _ _ _ _ _ _ _ _ _ => Rx_of gMT_290 d290_701 rfl,
  fun _ _ _ _ _ _ _ _ _ _ _ _ _ _ => Rx_of gMT_290 d290_702 rfl,
  fun _ _ _ _ _ _ _ _ _ _ _ _ _ _ _ _ => Rx_ald gMT_290 d290_703 rfl rfl,
  fun _ _ _ _ _ _ _ _ _ _ _ _ _ _ => Rx_of gMT_290 d290_704 rfl,
  fun _ _ _ _ _ _ _ _ _ _ _ _ _ _ _ => Rx_of gMT_290 d290_706 rfl,
  fun _ _ _ _ _ _ _ _ _ _ _ _ _ _ _ _ => Rx_of gMT_290 d290_707 rfl,
  fun _ _ _ _ _ _ _ _ _ _ _ _ _ _ _ => Rx_if gMT_290 d290_708 rfl rfl (by decide),
  fun _ _ _ _ _ _ _ _ _ _ _ _ _ _ => Rx_of gMT_290 d290_711 rfl,
  fun _ _ _ _ _ _ _ _ _ _ _ _ _ => (Rx_iret gMT_290 d290_712 rfl rfl).trans (if_pos rfl),
  fun _ _ _ _ _ _ _ _ _ _ _ _ _ => (Rx_iret gMT_290 d290_712 rfl rfl).trans (if_pos rfl),
  fun _ _ _ _ _ _ _ _ _ _ _ _ _ _ => Rx_iret gMT_290 d290_712 rfl rfl,
  fun _ _ _ _ _ _ _ _ _ _ _ _ _ _ => Rx_goto gMT_290 d290_713 rfl (by decide),
  fun _ _ _ _ _ _ _ _ _ _ _ _ _ _ => Rx_of gMT_290 d290_716 rfl,
  fun _ _ _ _ _ _ _ _ _ _ _ _ _ => Rx_of gMT_290 d290_716 rfl,
  fun _ _ _ _ _ _ _ _ _ _ _ _ _ _ => Rx_of gMT_290 d290_717 rfl,
  fun _ _ _ _ _ _ _ _ _ _ _ _ _ => Rx_of gMT_290 d290_717 rfl⟩
