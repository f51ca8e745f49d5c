theorem QLaw_law_0 : (∀ (E : sV) (d : Nat) (l0 l1 l2 l3 l4 l5 l6 l7 l8 l9 : Option Value) (st : List Value) (σ : sS), Rx E d 289 0 [l0, l1, l2, l3, l4, l5, l6, l7, l8, l9] st σ = Rx E d 289 3 [l0, l1, l2, l3, l4, l5, l6, l7, l8, l9] (.ref σ.2.1 :: st) (hset σ.1 σ.2.1 (.inr (7, [.null, .null, .int 0, .null, .null, .null, .null, .int 0, .int 0])), σ.2.1 + 1, σ.2.2 + 9)) ∧
  (∀ (E : sV) (d : Nat) (l0 l1 l2 l3 l4 l5 l6 l7 l8 l9 : Option Value) (x : Nat) (st : List Value) (σ : sS), Rx E d 289 3 [l0, l1, l2, l3, l4, l5, l6, l7, l8, l9] (.ref x :: st) σ = Rx E d 289 4 [l0, l1, l2, l3, l4, l5, l6, l7, l8, l9] (.ref x :: .ref x :: st) σ) ∧
  (∀ (E : sV) (d : Nat) (l0 l1 l2 l3 l4 l5 l6 l7 l8 l9 : Option Value) (x : Int32) (st : List Value) (σ : sS), Rx E d 289 3 [l0, l1, l2, l3, l4, l5, l6, l7, l8, l9] (.int x :: st) σ = Rx E d 289 4 [l0, l1, l2, l3, l4, l5, l6, l7, l8, l9] (.int x :: .int x :: st) σ) ∧
  (∀ (E : sV) (d : Nat) (l0 l1 l2 l3 l4 l5 l6 l7 l8 l9 : Option Value) (b : Nat) (st : List Value) (σ : sS), Rx E d 289 4 [l0, l1, l2, l3, l4, l5, l6, l7, l8, l9] (.ref b :: st) σ = if cats st ≤ 8 then callR (Mt E d 61 [.ref b] σ) (fun v σ => Rx E d 289 7 [l0, l1, l2, l3, l4, l5, l6, l7, l8, l9] (v.toList ++ st) σ) else none) ∧
  (∀ (E : sV) (d : Nat) (l0 l1 l2 l3 l4 l5 l6 l7 l8 l9 : Option Value) (x : Nat) (st : List Value) (σ : sS), Rx E d 289 7 [l0, l1, l2, l3, l4, l5, l6, l7, l8, l9] (.ref x :: st) σ = Rx E d 289 8 [ldrop l0, some (.ref x), l2, l3, l4, l5, l6, l7, l8, l9] st σ) ∧
  (∀ (E : sV) (d : Nat) (l0 l1 l2 l3 l4 l5 l6 l7 l8 l9 : Option Value) (st : List Value) (σ : sS), Rx E d 289 7 [l0, l1, l2, l3, l4, l5, l6, l7, l8, l9] (.null :: st) σ = Rx E d 289 8 [ldrop l0, some (.null), l2, l3, l4, l5, l6, l7, l8, l9] st σ) ∧
  (∀ (E : sV) (d : Nat) (l0 l1 l2 l3 l4 l5 l6 l7 l8 l9 : Option Value) (st : List Value) (σ : sS), Rx E d 289 8 [l0, l1, l2, l3, l4, l5, l6, l7, l8, l9] st σ = Rx E d 289 11 [l0, l1, l2, l3, l4, l5, l6, l7, l8, l9] (.ref σ.2.1 :: st) (hset σ.1 σ.2.1 (.inr (8, [.null, .null, .null, .null, .null, .null, .int 0, .int 0, .int 0, .int 0, .int 0, .int 0, .int 0, .null, .int 0, .null, .null, .null, .int 0, .int 0, .int 0, .int 0, .int 0])), σ.2.1 + 1, σ.2.2 + 23)) ∧
  (∀ (E : sV) (d : Nat) (l0 l1 l2 l3 l4 l5 l6 l7 l8 l9 : Option Value) (x : Nat) (st : List Value) (σ : sS), Rx E d 289 11 [l0, l1, l2, l3, l4, l5, l6, l7, l8, l9] (.ref x :: st) σ = Rx E d 289 12 [l0, l1, l2, l3, l4, l5, l6, l7, l8, l9] (.ref x :: .ref x :: st) σ) ∧
  (∀ (E : sV) (d : Nat) (l0 l1 l2 l3 l4 l5 l6 l7 l8 l9 : Option Value) (x : Int32) (st : List Value) (σ : sS), Rx E d 289 11 [l0, l1, l2, l3, l4, l5, l6, l7, l8, l9] (.int x :: st) σ = Rx E d 289 12 [l0, l1, l2, l3, l4, l5, l6, l7, l8, l9] (.int x :: .int x :: st) σ) ∧
  (∀ (E : sV) (d : Nat) (l0 l1 l2 l3 l4 l5 l6 l7 l8 l9 : Option Value) (b : Nat) (st : List Value) (σ : sS), Rx E d 289 12 [l0, l1, l2, l3, l4, l5, l6, l7, l8, l9] (.ref b :: st) σ = if cats st ≤ 8 then callR (Mt E d 126 [.ref b] σ) (fun v σ => Rx E d 289 15 [l0, l1, l2, l3, l4, l5, l6, l7, l8, l9] (v.toList ++ st) σ) else none) ∧
  (∀ (E : sV) (d : Nat) (l0 l1 l2 l3 l4 l5 l6 l7 l8 l9 : Option Value) (x : Nat) (st : List Value) (σ : sS), Rx E d 289 15 [l0, l1, l2, l3, l4, l5, l6, l7, l8, l9] (.ref x :: st) σ = Rx E d 289 16 [l0, ldrop l1, some (.ref x), l3, l4, l5, l6, l7, l8, l9] st σ) ∧
  (∀ (E : sV) (d : Nat) (l0 l1 l2 l3 l4 l5 l6 l7 l8 l9 : Option Value) (st : List Value) (σ : sS), Rx E d 289 15 [l0, l1, l2, l3, l4, l5, l6, l7, l8, l9] (.null :: st) σ = Rx E d 289 16 [l0, ldrop l1, some (.null), l3, l4, l5, l6, l7, l8, l9] st σ) ∧
  (∀ (E : sV) (d : Nat) (l0 l1 l2 l3 l4 l5 l6 l7 l8 l9 : Option Value) (st : List Value) (σ : sS), Rx E d 289 16 [l0, l1, l2, l3, l4, l5, l6, l7, l8, l9] st σ = Rx E d 289 17 [l0, l1, l2, l3, l4, l5, l6, l7, l8, l9] (.int (1) :: st) σ) ∧
  (∀ (E : sV) (d : Nat) (l0 l1 l2 l3 l4 l5 l6 l7 l8 l9 : Option Value) (n : Int32) (st : List Value) (σ : sS), Rx E d 289 17 [l0, l1, l2, l3, l4, l5, l6, l7, l8, l9] (.int n :: st) σ = if n < 0 ∨ 536870912 < n.toNatClampNeg * componentBytes .long then none else Rx E d 289 19 [l0, l1, l2, l3, l4, l5, l6, l7, l8, l9] (.ref σ.2.1 :: st) (hset σ.1 σ.2.1 (.inl (.long, (n.toNatClampNeg, .inr (.inl (fun _ => 0))))), σ.2.1 + 1, σ.2.2 + n.toNatClampNeg)) ∧
  (∀ (E : sV) (d : Nat) (l0 l1 l2 l3 l4 l5 l6 l7 l8 l9 : Option Value) (x : Nat) (st : List Value) (σ : sS), Rx E d 289 19 [l0, l1, l2, l3, l4, l5, l6, l7, l8, l9] (.ref x :: st) σ = Rx E d 289 20 [l0, l1, ldrop l2, some (.ref x), l4, l5, l6, l7, l8, l9] st σ) ∧
  (∀ (E : sV) (d : Nat) (l0 l1 l2 l3 l4 l5 l6 l7 l8 l9 : Option Value) (st : List Value) (σ : sS), Rx E d 289 19 [l0, l1, l2, l3, l4, l5, l6, l7, l8, l9] (.null :: st) σ = Rx E d 289 20 [l0, l1, ldrop l2, some (.null), l4, l5, l6, l7, l8, l9] st σ) ∧
  (∀ (E : sV) (d : Nat) (l0 l1 l2 l3 l4 l5 l6 l7 l8 l9 : Option Value) (st : List Value) (σ : sS), Rx E d 289 20 [l0, l1, l2, l3, l4, l5, l6, l7, l8, l9] st σ = Rx E d 289 21 [l0, l1, l2, l3, l4, l5, l6, l7, l8, l9] (.int (1) :: st) σ) ∧
  (∀ (E : sV) (d : Nat) (l0 l1 l2 l3 l4 l5 l6 l7 l8 l9 : Option Value) (n : Int32) (st : List Value) (σ : sS), Rx E d 289 21 [l0, l1, l2, l3, l4, l5, l6, l7, l8, l9] (.int n :: st) σ = if n < 0 ∨ 536870912 < n.toNatClampNeg * componentBytes .double then none else Rx E d 289 23 [l0, l1, l2, l3, l4, l5, l6, l7, l8, l9] (.ref σ.2.1 :: st) (hset σ.1 σ.2.1 (.inl (.double, (n.toNatClampNeg, .inr (.inr (.inr (.inl (fun _ => 0))))))), σ.2.1 + 1, σ.2.2 + n.toNatClampNeg)) ∧
  (∀ (E : sV) (d : Nat) (l0 l1 l2 l3 l4 l5 l6 l7 l8 l9 : Option Value) (x : Nat) (st : List Value) (σ : sS), Rx E d 289 23 [l0, l1, l2, l3, l4, l5, l6, l7, l8, l9] (.ref x :: st) σ = Rx E d 289 25 [l0, l1, l2, ldrop l3, some (.ref x), l5, l6, l7, l8, l9] st σ) ∧
  (∀ (E : sV) (d : Nat) (l0 l1 l2 l3 l4 l5 l6 l7 l8 l9 : Option Value) (st : List Value) (σ : sS), Rx E d 289 23 [l0, l1, l2, l3, l4, l5, l6, l7, l8, l9] (.null :: st) σ = Rx E d 289 25 [l0, l1, l2, ldrop l3, some (.null), l5, l6, l7, l8, l9] st σ) ∧
  (∀ (E : sV) (d : Nat) (l0 l1 l2 l3 l4 l5 l6 l7 l8 l9 : Option Value) (st : List Value) (σ : sS), Rx E d 289 25 [l0, l1, l2, l3, l4, l5, l6, l7, l8, l9] st σ = Rx E d 289 26 [l0, l1, l2, l3, l4, l5, l6, l7, l8, l9] (.int (0) :: st) σ) ∧
  (∀ (E : sV) (d : Nat) (l0 l1 l2 l3 l4 l5 l6 l7 l8 l9 : Option Value) (x : Int32) (st : List Value) (σ : sS), Rx E d 289 26 [l0, l1, l2, l3, l4, l5, l6, l7, l8, l9] (.int x :: st) σ = Rx E d 289 28 [l0, l1, l2, l3, ldrop l4, some (.int x), l6, l7, l8, l9] st σ) ∧
  (∀ (E : sV) (d : Nat) (l1 : Option Value) (l2 : Option Value) (l3 : Option Value) (l4 : Option Value) (l5 : Option Value) (l6 : Option Value) (l7 : Option Value) (l8 : Option Value) (l9 : Option Value) (x : Nat) (st : List Value) (σ : sS), Rx E d 289 30 [some (.ref x), l1, l2, l3, l4, l5, l6, l7, l8, l9] st σ = Rx E d 289 31 [some (.ref x), l1, l2, l3, l4, l5, l6, l7, l8, l9] (.ref x :: st) σ) ∧
  (∀ (E : sV) (d : Nat) (l1 : Option Value) (l2 : Option Value) (l3 : Option Value) (l4 : Option Value) (l5 : Option Value) (l6 : Option Value) (l7 : Option Value) (l8 : Option Value) (l9 : Option Value) (st : List Value) (σ : sS), Rx E d 289 30 [some (.null), l1, l2, l3, l4, l5, l6, l7, l8, l9] st σ = Rx E d 289 31 [some (.null), l1, l2, l3, l4, l5, l6, l7, l8, l9] (.null :: st) σ) ∧
  (∀ (E : sV) (d : Nat) (l0 l1 l2 l3 l4 l5 l6 l7 l8 l9 : Option Value) (a : Nat) (st : List Value) (σ : sS), Rx E d 289 31 [l0, l1, l2, l3, l4, l5, l6, l7, l8, l9] (.ref a :: st) σ = (alen σ.1 a).bind (fun n => Rx E d 289 32 [l0, l1, l2, l3, l4, l5, l6, l7, l8, l9] (.int n :: st) σ)) ∧
  (∀ (E : sV) (d : Nat) (l0 l1 l2 l3 l4 l5 l6 l7 l8 l9 : Option Value) (st : List Value) (σ : sS), Rx E d 289 32 [l0, l1, l2, l3, l4, l5, l6, l7, l8, l9] st σ = Rx E d 289 34 [l0, l1, l2, l3, l4, l5, l6, l7, l8, l9] (.int (7) :: st) σ) ∧
  (∀ (E : sV) (d : Nat) (l0 l1 l2 l3 l4 l5 l6 l7 l8 l9 : Option Value) (x y : Int32) (st : List Value) (σ : sS), Rx E d 289 34 [l0, l1, l2, l3, l4, l5, l6, l7, l8, l9] (.int y :: .int x :: st) σ = Rx E d 289 35 [l0, l1, l2, l3, l4, l5, l6, l7, l8, l9] (.int (x - y) :: st) σ) ∧
  (∀ (E : sV) (d : Nat) (l0 l1 l2 l3 l4 l5 l6 l7 l8 l9 : Option Value) (x y : Int32) (st : List Value) (σ : sS), Rx E d 289 35 [l0, l1, l2, l3, l4, l5, l6, l7, l8, l9] (.int y :: .int x :: st) σ = if y < x then Rx E d 289 3007 [l0, l1, l2, l3, l4, l5, l6, l7, l8, l9] st σ else Rx E d 289 38 [l0, l1, l2, l3, l4, l5, l6, l7, l8, l9] st σ) ∧
  (∀ (E : sV) (d : Nat) (l1 : Option Value) (l2 : Option Value) (l3 : Option Value) (l4 : Option Value) (l5 : Option Value) (l6 : Option Value) (l7 : Option Value) (l8 : Option Value) (l9 : Option Value) (x : Nat) (st : List Value) (σ : sS), Rx E d 289 38 [some (.ref x), l1, l2, l3, l4, l5, l6, l7, l8, l9] st σ = Rx E d 289 39 [some (.ref x), l1, l2, l3, l4, l5, l6, l7, l8, l9] (.ref x :: st) σ) ∧
  (∀ (E : sV) (d : Nat) (l1 : Option Value) (l2 : Option Value) (l3 : Option Value) (l4 : Option Value) (l5 : Option Value) (l6 : Option Value) (l7 : Option Value) (l8 : Option Value) (l9 : Option Value) (st : List Value) (σ : sS), Rx E d 289 38 [some (.null), l1, l2, l3, l4, l5, l6, l7, l8, l9] st σ = Rx E d 289 39 [some (.null), l1, l2, l3, l4, l5, l6, l7, l8, l9] (.null :: st) σ) := ⟨fun _ _ _ _ _ _ _ _ _ _ _ _ _ _ => Rx_new gMT_289 d289_0 rfl rfl rfl rfl rfl,
  fun _ _ _ _ _ _ _ _ _ _ _ _ _ _ _ => Rx_of gMT_289 d289_3 rfl,
  fun _ _ _ _ _ _ _ _ _ _ _ _ _ _ _ => Rx_of gMT_289 d289_3 rfl,
  fun _ _ _ _ _ _ _ _ _ _ _ _ _ _ _ => Rx_callI gMT_289 d289_4 rfl rfl rfl (by decide) rfl,
  fun _ _ _ _ _ _ _ _ _ _ _ _ _ _ _ => Rx_of gMT_289 d289_7 rfl,
  fun _ _ _ _ _ _ _ _ _ _ _ _ _ _ => Rx_of gMT_289 d289_7 rfl,
  fun _ _ _ _ _ _ _ _ _ _ _ _ _ _ => Rx_new gMT_289 d289_8 rfl rfl rfl rfl rfl,
  fun _ _ _ _ _ _ _ _ _ _ _ _ _ _ _ => Rx_of gMT_289 d289_11 rfl,
  fun _ _ _ _ _ _ _ _ _ _ _ _ _ _ _ => Rx_of gMT_289 d289_11 rfl,
  fun _ _ _ _ _ _ _ _ _ _ _ _ _ _ _ => Rx_callI gMT_289 d289_12 rfl rfl rfl (by decide) rfl,
  fun _ _ _ _ _ _ _ _ _ _ _ _ _ _ _ => Rx_of gMT_289 d289_15 rfl,
  fun _ _ _ _ _ _ _ _ _ _ _ _ _ _ => Rx_of gMT_289 d289_15 rfl,
  fun _ _ _ _ _ _ _ _ _ _ _ _ _ _ => Rx_of gMT_289 d289_16 rfl,
  fun _ _ _ _ _ _ _ _ _ _ _ _ _ _ _ => Rx_newa gMT_289 d289_17 rfl rfl rfl,
  fun _ _ _ _ _ _ _ _ _ _ _ _ _ _ _ => Rx_of gMT_289 d289_19 rfl,
  fun _ _ _ _ _ _ _ _ _ _ _ _ _ _ => Rx_of gMT_289 d289_19 rfl,
  fun _ _ _ _ _ _ _ _ _ _ _ _ _ _ => Rx_of gMT_289 d289_20 rfl,
  fun _ _ _ _ _ _ _ _ _ _ _ _ _ _ _ => Rx_newa gMT_289 d289_21 rfl rfl rfl,
  fun _ _ _ _ _ _ _ _ _ _ _ _ _ _ _ => Rx_of gMT_289 d289_23 rfl,
  fun _ _ _ _ _ _ _ _ _ _ _ _ _ _ => Rx_of gMT_289 d289_23 rfl,
  fun _ _ _ _ _ _ _ _ _ _ _ _ _ _ => Rx_of gMT_289 d289_25 rfl,
  fun _ _ _ _ _ _ _ _ _ _ _ _ _ _ _ => Rx_of gMT_289 d289_26 rfl,
  fun _ _ _ _ _ _ _ _ _ _ _ _ _ _ => Rx_of gMT_289 d289_30 rfl,
  fun _ _ _ _ _ _ _ _ _ _ _ _ _ => Rx_of gMT_289 d289_30 rfl,
  fun _ _ _ _ _ _ _ _ _ _ _ _ _ _ _ => Rx_alen gMT_289 d289_31 rfl,
  fun _ _ _ _ _ _ _ _ _ _ _ _ _ _ => Rx_of gMT_289 d289_32 rfl,
  fun _ _ _ _ _ _ _ _ _ _ _ _ _ _ _ _ => Rx_of gMT_289 d289_34 rfl,
  fun _ _ _ _ _ _ _ _ _ _ _ _ _ _ _ _ => Rx_icmp gMT_289 d289_35 rfl rfl (by decide),
  fun _ _ _ _ _ _ _ _ _ _ _ _ _ _ => Rx_of gMT_289 d289_38 rfl,
  fun _ _ _ _ _ _ _ _ _ _ _ _ _ => Rx_of gMT_289 d289_38 rfl⟩
theorem QLaw_law_1 : (∀ (E : sV) (d : Nat) (l0 : Option Value) (l1 : Option Value) (l2 : Option Value) (l3 : Option Value) (l4 : Option Value) (l6 : Option Value) (l7 : Option Value) (l8 : Option Value) (l9 : Option Value) (x : Int32) (st : List Value) (σ : sS), Rx E d 289 39 [l0, l1, l2, l3, l4, some (.int x), l6, l7, l8, l9] st σ = Rx E d 289 41 [l0, l1, l2, l3, l4, some (.int x), l6, l7, l8, l9] (.int x :: st) σ) ∧
  (∀ (E : sV) (d : Nat) (l0 l1 l2 l3 l4 l5 l6 l7 l8 l9 : Option Value) (i : Int32) (a : Nat) (st : List Value) (σ : sS), Rx E d 289 41 [l0, l1, l2, l3, l4, l5, l6, l7, l8, l9] (.int i :: .ref a :: st) σ = (aldI .int σ.1 a i).bind (fun v => Rx E d 289 42 [l0, l1, l2, l3, l4, l5, l6, l7, l8, l9] (v :: st) σ)) ∧
  (∀ (E : sV) (d : Nat) (l0 l1 l2 l3 l4 l5 l6 l7 l8 l9 : Option Value) (st : List Value) (σ : sS), Rx E d 289 42 [l0, l1, l2, l3, l4, l5, l6, l7, l8, l9] st σ = Rx E d 289 44 [l0, l1, l2, l3, l4, l5, l6, l7, l8, l9] (.int (63) :: st) σ) ∧
  (∀ (E : sV) (d : Nat) (l0 l1 l2 l3 l4 l5 l6 l7 l8 l9 : Option Value) (x y : Int32) (st : List Value) (σ : sS), Rx E d 289 44 [l0, l1, l2, l3, l4, l5, l6, l7, l8, l9] (.int y :: .int x :: st) σ = Rx E d 289 45 [l0, l1, l2, l3, l4, l5, l6, l7, l8, l9] (.int (x &&& y) :: st) σ) ∧
  (∀ (E : sV) (d : Nat) (l0 l1 l2 l3 l4 l5 l6 l7 l8 l9 : Option Value) (st : List Value) (σ : sS), Rx E d 289 45 [l0, l1, l2, l3, l4, l5, l6, l7, l8, l9] (.int (0) :: st) σ = Rx E d 289 264 [l0, l1, l2, l3, l4, l5, l6, l7, l8, l9] st σ) ∧
  (∀ (E : sV) (d : Nat) (l0 l1 l2 l3 l4 l5 l6 l7 l8 l9 : Option Value) (st : List Value) (σ : sS), Rx E d 289 45 [l0, l1, l2, l3, l4, l5, l6, l7, l8, l9] (.int (1) :: st) σ = Rx E d 289 384 [l0, l1, l2, l3, l4, l5, l6, l7, l8, l9] st σ) ∧
  (∀ (E : sV) (d : Nat) (l0 l1 l2 l3 l4 l5 l6 l7 l8 l9 : Option Value) (st : List Value) (σ : sS), Rx E d 289 45 [l0, l1, l2, l3, l4, l5, l6, l7, l8, l9] (.int (2) :: st) σ = Rx E d 289 440 [l0, l1, l2, l3, l4, l5, l6, l7, l8, l9] st σ) ∧
  (∀ (E : sV) (d : Nat) (l0 l1 l2 l3 l4 l5 l6 l7 l8 l9 : Option Value) (st : List Value) (σ : sS), Rx E d 289 45 [l0, l1, l2, l3, l4, l5, l6, l7, l8, l9] (.int (3) :: st) σ = Rx E d 289 508 [l0, l1, l2, l3, l4, l5, l6, l7, l8, l9] st σ) ∧
  (∀ (E : sV) (d : Nat) (l0 l1 l2 l3 l4 l5 l6 l7 l8 l9 : Option Value) (st : List Value) (σ : sS), Rx E d 289 45 [l0, l1, l2, l3, l4, l5, l6, l7, l8, l9] (.int (4) :: st) σ = Rx E d 289 564 [l0, l1, l2, l3, l4, l5, l6, l7, l8, l9] st σ) ∧
  (∀ (E : sV) (d : Nat) (l0 l1 l2 l3 l4 l5 l6 l7 l8 l9 : Option Value) (st : List Value) (σ : sS), Rx E d 289 45 [l0, l1, l2, l3, l4, l5, l6, l7, l8, l9] (.int (5) :: st) σ = Rx E d 289 634 [l0, l1, l2, l3, l4, l5, l6, l7, l8, l9] st σ) ∧
  (∀ (E : sV) (d : Nat) (l0 l1 l2 l3 l4 l5 l6 l7 l8 l9 : Option Value) (st : List Value) (σ : sS), Rx E d 289 45 [l0, l1, l2, l3, l4, l5, l6, l7, l8, l9] (.int (6) :: st) σ = Rx E d 289 716 [l0, l1, l2, l3, l4, l5, l6, l7, l8, l9] st σ) ∧
  (∀ (E : sV) (d : Nat) (l0 l1 l2 l3 l4 l5 l6 l7 l8 l9 : Option Value) (st : List Value) (σ : sS), Rx E d 289 45 [l0, l1, l2, l3, l4, l5, l6, l7, l8, l9] (.int (7) :: st) σ = Rx E d 289 784 [l0, l1, l2, l3, l4, l5, l6, l7, l8, l9] st σ) ∧
  (∀ (E : sV) (d : Nat) (l0 l1 l2 l3 l4 l5 l6 l7 l8 l9 : Option Value) (st : List Value) (σ : sS), Rx E d 289 45 [l0, l1, l2, l3, l4, l5, l6, l7, l8, l9] (.int (8) :: st) σ = Rx E d 289 852 [l0, l1, l2, l3, l4, l5, l6, l7, l8, l9] st σ) ∧
  (∀ (E : sV) (d : Nat) (l0 l1 l2 l3 l4 l5 l6 l7 l8 l9 : Option Value) (st : List Value) (σ : sS), Rx E d 289 45 [l0, l1, l2, l3, l4, l5, l6, l7, l8, l9] (.int (9) :: st) σ = Rx E d 289 920 [l0, l1, l2, l3, l4, l5, l6, l7, l8, l9] st σ) ∧
  (∀ (E : sV) (d : Nat) (l0 l1 l2 l3 l4 l5 l6 l7 l8 l9 : Option Value) (st : List Value) (σ : sS), Rx E d 289 45 [l0, l1, l2, l3, l4, l5, l6, l7, l8, l9] (.int (10) :: st) σ = Rx E d 289 976 [l0, l1, l2, l3, l4, l5, l6, l7, l8, l9] st σ) ∧
  (∀ (E : sV) (d : Nat) (l0 l1 l2 l3 l4 l5 l6 l7 l8 l9 : Option Value) (st : List Value) (σ : sS), Rx E d 289 45 [l0, l1, l2, l3, l4, l5, l6, l7, l8, l9] (.int (11) :: st) σ = Rx E d 289 1044 [l0, l1, l2, l3, l4, l5, l6, l7, l8, l9] st σ) ∧
  (∀ (E : sV) (d : Nat) (l0 l1 l2 l3 l4 l5 l6 l7 l8 l9 : Option Value) (st : List Value) (σ : sS), Rx E d 289 45 [l0, l1, l2, l3, l4, l5, l6, l7, l8, l9] (.int (12) :: st) σ = Rx E d 289 1057 [l0, l1, l2, l3, l4, l5, l6, l7, l8, l9] st σ) ∧
  (∀ (E : sV) (d : Nat) (l0 l1 l2 l3 l4 l5 l6 l7 l8 l9 : Option Value) (st : List Value) (σ : sS), Rx E d 289 45 [l0, l1, l2, l3, l4, l5, l6, l7, l8, l9] (.int (13) :: st) σ = Rx E d 289 1082 [l0, l1, l2, l3, l4, l5, l6, l7, l8, l9] st σ) ∧
  (∀ (E : sV) (d : Nat) (l0 l1 l2 l3 l4 l5 l6 l7 l8 l9 : Option Value) (st : List Value) (σ : sS), Rx E d 289 45 [l0, l1, l2, l3, l4, l5, l6, l7, l8, l9] (.int (14) :: st) σ = Rx E d 289 1138 [l0, l1, l2, l3, l4, l5, l6, l7, l8, l9] st σ) ∧
  (∀ (E : sV) (d : Nat) (l0 l1 l2 l3 l4 l5 l6 l7 l8 l9 : Option Value) (st : List Value) (σ : sS), Rx E d 289 45 [l0, l1, l2, l3, l4, l5, l6, l7, l8, l9] (.int (15) :: st) σ = Rx E d 289 1194 [l0, l1, l2, l3, l4, l5, l6, l7, l8, l9] st σ) ∧
  (∀ (E : sV) (d : Nat) (l0 l1 l2 l3 l4 l5 l6 l7 l8 l9 : Option Value) (st : List Value) (σ : sS), Rx E d 289 45 [l0, l1, l2, l3, l4, l5, l6, l7, l8, l9] (.int (16) :: st) σ = Rx E d 289 1250 [l0, l1, l2, l3, l4, l5, l6, l7, l8, l9] st σ) ∧
  (∀ (E : sV) (d : Nat) (l0 l1 l2 l3 l4 l5 l6 l7 l8 l9 : Option Value) (st : List Value) (σ : sS), Rx E d 289 45 [l0, l1, l2, l3, l4, l5, l6, l7, l8, l9] (.int (17) :: st) σ = Rx E d 289 1306 [l0, l1, l2, l3, l4, l5, l6, l7, l8, l9] st σ) ∧
  (∀ (E : sV) (d : Nat) (l0 l1 l2 l3 l4 l5 l6 l7 l8 l9 : Option Value) (st : List Value) (σ : sS), Rx E d 289 45 [l0, l1, l2, l3, l4, l5, l6, l7, l8, l9] (.int (18) :: st) σ = Rx E d 289 1362 [l0, l1, l2, l3, l4, l5, l6, l7, l8, l9] st σ) ∧
  (∀ (E : sV) (d : Nat) (l0 l1 l2 l3 l4 l5 l6 l7 l8 l9 : Option Value) (st : List Value) (σ : sS), Rx E d 289 45 [l0, l1, l2, l3, l4, l5, l6, l7, l8, l9] (.int (19) :: st) σ = Rx E d 289 1420 [l0, l1, l2, l3, l4, l5, l6, l7, l8, l9] st σ) ∧
  (∀ (E : sV) (d : Nat) (l0 l1 l2 l3 l4 l5 l6 l7 l8 l9 : Option Value) (st : List Value) (σ : sS), Rx E d 289 45 [l0, l1, l2, l3, l4, l5, l6, l7, l8, l9] (.int (20) :: st) σ = Rx E d 289 1490 [l0, l1, l2, l3, l4, l5, l6, l7, l8, l9] st σ) ∧
  (∀ (E : sV) (d : Nat) (l0 l1 l2 l3 l4 l5 l6 l7 l8 l9 : Option Value) (st : List Value) (σ : sS), Rx E d 289 45 [l0, l1, l2, l3, l4, l5, l6, l7, l8, l9] (.int (21) :: st) σ = Rx E d 289 1546 [l0, l1, l2, l3, l4, l5, l6, l7, l8, l9] st σ) ∧
  (∀ (E : sV) (d : Nat) (l0 l1 l2 l3 l4 l5 l6 l7 l8 l9 : Option Value) (st : List Value) (σ : sS), Rx E d 289 45 [l0, l1, l2, l3, l4, l5, l6, l7, l8, l9] (.int (22) :: st) σ = Rx E d 289 1602 [l0, l1, l2, l3, l4, l5, l6, l7, l8, l9] st σ) ∧
  (∀ (E : sV) (d : Nat) (l0 l1 l2 l3 l4 l5 l6 l7 l8 l9 : Option Value) (st : List Value) (σ : sS), Rx E d 289 45 [l0, l1, l2, l3, l4, l5, l6, l7, l8, l9] (.int (23) :: st) σ = Rx E d 289 1658 [l0, l1, l2, l3, l4, l5, l6, l7, l8, l9] st σ) ∧
  (∀ (E : sV) (d : Nat) (l0 l1 l2 l3 l4 l5 l6 l7 l8 l9 : Option Value) (st : List Value) (σ : sS), Rx E d 289 45 [l0, l1, l2, l3, l4, l5, l6, l7, l8, l9] (.int (24) :: st) σ = Rx E d 289 1714 [l0, l1, l2, l3, l4, l5, l6, l7, l8, l9] st σ) ∧
  (∀ (E : sV) (d : Nat) (l0 l1 l2 l3 l4 l5 l6 l7 l8 l9 : Option Value) (st : List Value) (σ : sS), Rx E d 289 45 [l0, l1, l2, l3, l4, l5, l6, l7, l8, l9] (.int (25) :: st) σ = Rx E d 289 1770 [l0, l1, l2, l3, l4, l5, l6, l7, l8, l9] st σ) := ⟨fun _ _ _ _ _ _ _ _ _ _ _ _ _ _ => Rx_of gMT_289 d289_39 rfl,
  fun _ _ _ _ _ _ _ _ _ _ _ _ _ _ _ _ => Rx_ald gMT_289 d289_41 rfl rfl,
  fun _ _ _ _ _ _ _ _ _ _ _ _ _ _ => Rx_of gMT_289 d289_42 rfl,
  fun _ _ _ _ _ _ _ _ _ _ _ _ _ _ _ _ => Rx_of gMT_289 d289_44 rfl,
  fun _ _ _ _ _ _ _ _ _ _ _ _ _ _ => Rx_tsw gMT_289 d289_45 rfl (by decide) rfl (by decide) rfl,
  fun _ _ _ _ _ _ _ _ _ _ _ _ _ _ => Rx_tsw gMT_289 d289_45 rfl (by decide) rfl (by decide) rfl,
  fun _ _ _ _ _ _ _ _ _ _ _ _ _ _ => Rx_tsw gMT_289 d289_45 rfl (by decide) rfl (by decide) rfl,
  fun _ _ _ _ _ _ _ _ _ _ _ _ _ _ => Rx_tsw gMT_289 d289_45 rfl (by decide) rfl (by decide) rfl,
  fun _ _ _ _ _ _ _ _ _ _ _ _ _ _ => Rx_tsw gMT_289 d289_45 rfl (by decide) rfl (by decide) rfl,
  fun _ _ _ _ _ _ _ _ _ _ _ _ _ _ => Rx_tsw gMT_289 d289_45 rfl (by decide) rfl (by decide) rfl,
  fun _ _ _ _ _ _ _ _ _ _ _ _ _ _ => Rx_tsw gMT_289 d289_45 rfl (by decide) rfl (by decide) rfl,
  fun _ _ _ _ _ _ _ _ _ _ _ _ _ _ => Rx_tsw gMT_289 d289_45 rfl (by decide) rfl (by decide) rfl,
  fun _ _ _ _ _ _ _ _ _ _ _ _ _ _ => Rx_tsw gMT_289 d289_45 rfl (by decide) rfl (by decide) rfl,
  fun _ _ _ _ _ _ _ _ _ _ _ _ _ _ => Rx_tsw gMT_289 d289_45 rfl (by decide) rfl (by decide) rfl,
  fun _ _ _ _ _ _ _ _ _ _ _ _ _ _ => Rx_tsw gMT_289 d289_45 rfl (by decide) rfl (by decide) rfl,
  fun _ _ _ _ _ _ _ _ _ _ _ _ _ _ => Rx_tsw gMT_289 d289_45 rfl (by decide) rfl (by decide) rfl,
  fun _ _ _ _ _ _ _ _ _ _ _ _ _ _ => Rx_tsw gMT_289 d289_45 rfl (by decide) rfl (by decide) rfl,
  fun _ _ _ _ _ _ _ _ _ _ _ _ _ _ => Rx_tsw gMT_289 d289_45 rfl (by decide) rfl (by decide) rfl,
  fun _ _ _ _ _ _ _ _ _ _ _ _ _ _ => Rx_tsw gMT_289 d289_45 rfl (by decide) rfl (by decide) rfl,
  fun _ _ _ _ _ _ _ _ _ _ _ _ _ _ => Rx_tsw gMT_289 d289_45 rfl (by decide) rfl (by decide) rfl,
  fun _ _ _ _ _ _ _ _ _ _ _ _ _ _ => Rx_tsw gMT_289 d289_45 rfl (by decide) rfl (by decide) rfl,
  fun _ _ _ _ _ _ _ _ _ _ _ _ _ _ => Rx_tsw gMT_289 d289_45 rfl (by decide) rfl (by decide) rfl,
  fun _ _ _ _ _ _ _ _ _ _ _ _ _ _ => Rx_tsw gMT_289 d289_45 rfl (by decide) rfl (by decide) rfl,
  fun _ _ _ _ _ _ _ _ _ _ _ _ _ _ => Rx_tsw gMT_289 d289_45 rfl (by decide) rfl (by decide) rfl,
  fun _ _ _ _ _ _ _ _ _ _ _ _ _ _ => Rx_tsw gMT_289 d289_45 rfl (by decide) rfl (by decide) rfl,
  fun _ _ _ _ _ _ _ _ _ _ _ _ _ _ => Rx_tsw gMT_289 d289_45 rfl (by decide) rfl (by decide) rfl,
  fun _ _ _ _ _ _ _ _ _ _ _ _ _ _ => Rx_tsw gMT_289 d289_45 rfl (by decide) rfl (by decide) rfl,
  fun _ _ _ _ _ _ _ _ _ _ _ _ _ _ => Rx_tsw gMT_289 d289_45 rfl (by decide) rfl (by decide) rfl,
  fun _ _ _ _ _ _ _ _ _ _ _ _ _ _ => Rx_tsw gMT_289 d289_45 rfl (by decide) rfl (by decide) rfl,
  fun _ _ _ _ _ _ _ _ _ _ _ _ _ _ => Rx_tsw gMT_289 d289_45 rfl (by decide) rfl (by decide) rfl⟩
theorem QLaw_law_2 : (∀ (E : sV) (d : Nat) (l0 l1 l2 l3 l4 l5 l6 l7 l8 l9 : Option Value) (st : List Value) (σ : sS), Rx E d 289 45 [l0, l1, l2, l3, l4, l5, l6, l7, l8, l9] (.int (26) :: st) σ = Rx E d 289 1833 [l0, l1, l2, l3, l4, l5, l6, l7, l8, l9] st σ) ∧
  (∀ (E : sV) (d : Nat) (l0 l1 l2 l3 l4 l5 l6 l7 l8 l9 : Option Value) (st : List Value) (σ : sS), Rx E d 289 45 [l0, l1, l2, l3, l4, l5, l6, l7, l8, l9] (.int (27) :: st) σ = Rx E d 289 1889 [l0, l1, l2, l3, l4, l5, l6, l7, l8, l9] st σ) ∧
  (∀ (E : sV) (d : Nat) (l0 l1 l2 l3 l4 l5 l6 l7 l8 l9 : Option Value) (st : List Value) (σ : sS), Rx E d 289 45 [l0, l1, l2, l3, l4, l5, l6, l7, l8, l9] (.int (28) :: st) σ = Rx E d 289 1964 [l0, l1, l2, l3, l4, l5, l6, l7, l8, l9] st σ) ∧
  (∀ (E : sV) (d : Nat) (l0 l1 l2 l3 l4 l5 l6 l7 l8 l9 : Option Value) (st : List Value) (σ : sS), Rx E d 289 45 [l0, l1, l2, l3, l4, l5, l6, l7, l8, l9] (.int (29) :: st) σ = Rx E d 289 2032 [l0, l1, l2, l3, l4, l5, l6, l7, l8, l9] st σ) ∧
  (∀ (E : sV) (d : Nat) (l0 l1 l2 l3 l4 l5 l6 l7 l8 l9 : Option Value) (st : List Value) (σ : sS), Rx E d 289 45 [l0, l1, l2, l3, l4, l5, l6, l7, l8, l9] (.int (30) :: st) σ = Rx E d 289 2088 [l0, l1, l2, l3, l4, l5, l6, l7, l8, l9] st σ) ∧
  (∀ (E : sV) (d : Nat) (l0 l1 l2 l3 l4 l5 l6 l7 l8 l9 : Option Value) (st : List Value) (σ : sS), Rx E d 289 45 [l0, l1, l2, l3, l4, l5, l6, l7, l8, l9] (.int (31) :: st) σ = Rx E d 289 2144 [l0, l1, l2, l3, l4, l5, l6, l7, l8, l9] st σ) ∧
  (∀ (E : sV) (d : Nat) (l0 l1 l2 l3 l4 l5 l6 l7 l8 l9 : Option Value) (st : List Value) (σ : sS), Rx E d 289 45 [l0, l1, l2, l3, l4, l5, l6, l7, l8, l9] (.int (32) :: st) σ = Rx E d 289 2200 [l0, l1, l2, l3, l4, l5, l6, l7, l8, l9] st σ) ∧
  (∀ (E : sV) (d : Nat) (l0 l1 l2 l3 l4 l5 l6 l7 l8 l9 : Option Value) (st : List Value) (σ : sS), Rx E d 289 45 [l0, l1, l2, l3, l4, l5, l6, l7, l8, l9] (.int (33) :: st) σ = Rx E d 289 2268 [l0, l1, l2, l3, l4, l5, l6, l7, l8, l9] st σ) ∧
  (∀ (E : sV) (d : Nat) (l0 l1 l2 l3 l4 l5 l6 l7 l8 l9 : Option Value) (st : List Value) (σ : sS), Rx E d 289 45 [l0, l1, l2, l3, l4, l5, l6, l7, l8, l9] (.int (34) :: st) σ = Rx E d 289 2324 [l0, l1, l2, l3, l4, l5, l6, l7, l8, l9] st σ) ∧
  (∀ (E : sV) (d : Nat) (l0 l1 l2 l3 l4 l5 l6 l7 l8 l9 : Option Value) (st : List Value) (σ : sS), Rx E d 289 45 [l0, l1, l2, l3, l4, l5, l6, l7, l8, l9] (.int (35) :: st) σ = Rx E d 289 2338 [l0, l1, l2, l3, l4, l5, l6, l7, l8, l9] st σ) ∧
  (∀ (E : sV) (d : Nat) (l0 l1 l2 l3 l4 l5 l6 l7 l8 l9 : Option Value) (st : List Value) (σ : sS), Rx E d 289 45 [l0, l1, l2, l3, l4, l5, l6, l7, l8, l9] (.int (36) :: st) σ = Rx E d 289 2352 [l0, l1, l2, l3, l4, l5, l6, l7, l8, l9] st σ) ∧
  (∀ (E : sV) (d : Nat) (l0 l1 l2 l3 l4 l5 l6 l7 l8 l9 : Option Value) (st : List Value) (σ : sS), Rx E d 289 45 [l0, l1, l2, l3, l4, l5, l6, l7, l8, l9] (.int (37) :: st) σ = Rx E d 289 2365 [l0, l1, l2, l3, l4, l5, l6, l7, l8, l9] st σ) ∧
  (∀ (E : sV) (d : Nat) (l0 l1 l2 l3 l4 l5 l6 l7 l8 l9 : Option Value) (st : List Value) (σ : sS), Rx E d 289 45 [l0, l1, l2, l3, l4, l5, l6, l7, l8, l9] (.int (38) :: st) σ = Rx E d 289 2430 [l0, l1, l2, l3, l4, l5, l6, l7, l8, l9] st σ) ∧
  (∀ (E : sV) (d : Nat) (l0 l1 l2 l3 l4 l5 l6 l7 l8 l9 : Option Value) (st : List Value) (σ : sS), Rx E d 289 45 [l0, l1, l2, l3, l4, l5, l6, l7, l8, l9] (.int (39) :: st) σ = Rx E d 289 2473 [l0, l1, l2, l3, l4, l5, l6, l7, l8, l9] st σ) ∧
  (∀ (E : sV) (d : Nat) (l0 l1 l2 l3 l4 l5 l6 l7 l8 l9 : Option Value) (st : List Value) (σ : sS), Rx E d 289 45 [l0, l1, l2, l3, l4, l5, l6, l7, l8, l9] (.int (40) :: st) σ = Rx E d 289 2529 [l0, l1, l2, l3, l4, l5, l6, l7, l8, l9] st σ) ∧
  (∀ (E : sV) (d : Nat) (l0 l1 l2 l3 l4 l5 l6 l7 l8 l9 : Option Value) (st : List Value) (σ : sS), Rx E d 289 45 [l0, l1, l2, l3, l4, l5, l6, l7, l8, l9] (.int (41) :: st) σ = Rx E d 289 2542 [l0, l1, l2, l3, l4, l5, l6, l7, l8, l9] st σ) ∧
  (∀ (E : sV) (d : Nat) (l0 l1 l2 l3 l4 l5 l6 l7 l8 l9 : Option Value) (st : List Value) (σ : sS), Rx E d 289 45 [l0, l1, l2, l3, l4, l5, l6, l7, l8, l9] (.int (42) :: st) σ = Rx E d 289 2598 [l0, l1, l2, l3, l4, l5, l6, l7, l8, l9] st σ) ∧
  (∀ (E : sV) (d : Nat) (l0 l1 l2 l3 l4 l5 l6 l7 l8 l9 : Option Value) (st : List Value) (σ : sS), Rx E d 289 45 [l0, l1, l2, l3, l4, l5, l6, l7, l8, l9] (.int (43) :: st) σ = Rx E d 289 2654 [l0, l1, l2, l3, l4, l5, l6, l7, l8, l9] st σ) ∧
  (∀ (E : sV) (d : Nat) (l0 l1 l2 l3 l4 l5 l6 l7 l8 l9 : Option Value) (st : List Value) (σ : sS), Rx E d 289 45 [l0, l1, l2, l3, l4, l5, l6, l7, l8, l9] (.int (44) :: st) σ = Rx E d 289 2710 [l0, l1, l2, l3, l4, l5, l6, l7, l8, l9] st σ) ∧
  (∀ (E : sV) (d : Nat) (l0 l1 l2 l3 l4 l5 l6 l7 l8 l9 : Option Value) (st : List Value) (σ : sS), Rx E d 289 45 [l0, l1, l2, l3, l4, l5, l6, l7, l8, l9] (.int (45) :: st) σ = Rx E d 289 2768 [l0, l1, l2, l3, l4, l5, l6, l7, l8, l9] st σ) ∧
  (∀ (E : sV) (d : Nat) (l0 l1 l2 l3 l4 l5 l6 l7 l8 l9 : Option Value) (st : List Value) (σ : sS), Rx E d 289 45 [l0, l1, l2, l3, l4, l5, l6, l7, l8, l9] (.int (46) :: st) σ = Rx E d 289 2812 [l0, l1, l2, l3, l4, l5, l6, l7, l8, l9] st σ) ∧
  (∀ (E : sV) (d : Nat) (l0 l1 l2 l3 l4 l5 l6 l7 l8 l9 : Option Value) (st : List Value) (σ : sS), Rx E d 289 45 [l0, l1, l2, l3, l4, l5, l6, l7, l8, l9] (.int (47) :: st) σ = Rx E d 289 2856 [l0, l1, l2, l3, l4, l5, l6, l7, l8, l9] st σ) ∧
  (∀ (E : sV) (d : Nat) (l0 l1 l2 l3 l4 l5 l6 l7 l8 l9 : Option Value) (st : List Value) (σ : sS), Rx E d 289 45 [l0, l1, l2, l3, l4, l5, l6, l7, l8, l9] (.int (48) :: st) σ = Rx E d 289 2900 [l0, l1, l2, l3, l4, l5, l6, l7, l8, l9] st σ) ∧
  (∀ (E : sV) (d : Nat) (l0 l1 l2 l3 l4 l5 l6 l7 l8 l9 : Option Value) (st : List Value) (σ : sS), Rx E d 289 45 [l0, l1, l2, l3, l4, l5, l6, l7, l8, l9] (.int (49) :: st) σ = Rx E d 289 2944 [l0, l1, l2, l3, l4, l5, l6, l7, l8, l9] st σ) ∧
  (∀ (E : sV) (d : Nat) (l0 l1 l2 l3 l4 l5 l6 l7 l8 l9 : Option Value) (st : List Value) (σ : sS), Rx E d 289 45 [l0, l1, l2, l3, l4, l5, l6, l7, l8, l9] (.int (50) :: st) σ = Rx E d 289 2957 [l0, l1, l2, l3, l4, l5, l6, l7, l8, l9] st σ) ∧
  (∀ (E : sV) (d : Nat) (l0 l1 l2 l3 l4 l5 l6 l7 l8 l9 : Option Value) (x : Int32) (st : List Value) (σ : sS) (h : x.toInt < 0 ∨ 50 < x.toInt), Rx E d 289 45 [l0, l1, l2, l3, l4, l5, l6, l7, l8, l9] (.int x :: st) σ = Rx E d 289 3001 [l0, l1, l2, l3, l4, l5, l6, l7, l8, l9] st σ) ∧
  (∀ (E : sV) (d : Nat) (l0 : Option Value) (l2 : Option Value) (l3 : Option Value) (l4 : Option Value) (l5 : Option Value) (l6 : Option Value) (l7 : Option Value) (l8 : Option Value) (l9 : Option Value) (x : Nat) (st : List Value) (σ : sS), Rx E d 289 264 [l0, some (.ref x), l2, l3, l4, l5, l6, l7, l8, l9] st σ = Rx E d 289 265 [l0, some (.ref x), l2, l3, l4, l5, l6, l7, l8, l9] (.ref x :: st) σ) ∧
  (∀ (E : sV) (d : Nat) (l0 : Option Value) (l2 : Option Value) (l3 : Option Value) (l4 : Option Value) (l5 : Option Value) (l6 : Option Value) (l7 : Option Value) (l8 : Option Value) (l9 : Option Value) (st : List Value) (σ : sS), Rx E d 289 264 [l0, some (.null), l2, l3, l4, l5, l6, l7, l8, l9] st σ = Rx E d 289 265 [l0, some (.null), l2, l3, l4, l5, l6, l7, l8, l9] (.null :: st) σ) ∧
  (∀ (E : sV) (d : Nat) (l1 : Option Value) (l2 : Option Value) (l3 : Option Value) (l4 : Option Value) (l5 : Option Value) (l6 : Option Value) (l7 : Option Value) (l8 : Option Value) (l9 : Option Value) (x : Nat) (st : List Value) (σ : sS), Rx E d 289 265 [some (.ref x), l1, l2, l3, l4, l5, l6, l7, l8, l9] st σ = Rx E d 289 266 [some (.ref x), l1, l2, l3, l4, l5, l6, l7, l8, l9] (.ref x :: st) σ) ∧
  (∀ (E : sV) (d : Nat) (l1 : Option Value) (l2 : Option Value) (l3 : Option Value) (l4 : Option Value) (l5 : Option Value) (l6 : Option Value) (l7 : Option Value) (l8 : Option Value) (l9 : Option Value) (st : List Value) (σ : sS), Rx E d 289 265 [some (.null), l1, l2, l3, l4, l5, l6, l7, l8, l9] st σ = Rx E d 289 266 [some (.null), l1, l2, l3, l4, l5, l6, l7, l8, l9] (.null :: st) σ) := ⟨fun _ _ _ _ _ _ _ _ _ _ _ _ _ _ => Rx_tsw gMT_289 d289_45 rfl (by decide) rfl (by decide) rfl,
  fun _ _ _ _ _ _ _ _ _ _ _ _ _ _ => Rx_tsw gMT_289 d289_45 rfl (by decide) rfl (by decide) rfl,
  fun _ _ _ _ _ _ _ _ _ _ _ _ _ _ => Rx_tsw gMT_289 d289_45 rfl (by decide) rfl (by decide) rfl,
  fun _ _ _ _ _ _ _ _ _ _ _ _ _ _ => Rx_tsw gMT_289 d289_45 rfl (by decide) rfl (by decide) rfl,
  fun _ _ _ _ _ _ _ _ _ _ _ _ _ _ => Rx_tsw gMT_289 d289_45 rfl (by decide) rfl (by decide) rfl,
  fun _ _ _ _ _ _ _ _ _ _ _ _ _ _ => Rx_tsw gMT_289 d289_45 rfl (by decide) rfl (by decide) rfl,
  fun _ _ _ _ _ _ _ _ _ _ _ _ _ _ => Rx_tsw gMT_289 d289_45 rfl (by decide) rfl (by decide) rfl,
  fun _ _ _ _ _ _ _ _ _ _ _ _ _ _ => Rx_tsw gMT_289 d289_45 rfl (by decide) rfl (by decide) rfl,
  fun _ _ _ _ _ _ _ _ _ _ _ _ _ _ => Rx_tsw gMT_289 d289_45 rfl (by decide) rfl (by decide) rfl,
  fun _ _ _ _ _ _ _ _ _ _ _ _ _ _ => Rx_tsw gMT_289 d289_45 rfl (by decide) rfl (by decide) rfl,
  fun _ _ _ _ _ _ _ _ _ _ _ _ _ _ => Rx_tsw gMT_289 d289_45 rfl (by decide) rfl (by decide) rfl,
  fun _ _ _ _ _ _ _ _ _ _ _ _ _ _ => Rx_tsw gMT_289 d289_45 rfl (by decide) rfl (by decide) rfl,
  fun _ _ _ _ _ _ _ _ _ _ _ _ _ _ => Rx_tsw gMT_289 d289_45 rfl (by decide) rfl (by decide) rfl,
  fun _ _ _ _ _ _ _ _ _ _ _ _ _ _ => Rx_tsw gMT_289 d289_45 rfl (by decide) rfl (by decide) rfl,
  fun _ _ _ _ _ _ _ _ _ _ _ _ _ _ => Rx_tsw gMT_289 d289_45 rfl (by decide) rfl (by decide) rfl,
  fun _ _ _ _ _ _ _ _ _ _ _ _ _ _ => Rx_tsw gMT_289 d289_45 rfl (by decide) rfl (by decide) rfl,
  fun _ _ _ _ _ _ _ _ _ _ _ _ _ _ => Rx_tsw gMT_289 d289_45 rfl (by decide) rfl (by decide) rfl,
  fun _ _ _ _ _ _ _ _ _ _ _ _ _ _ => Rx_tsw gMT_289 d289_45 rfl (by decide) rfl (by decide) rfl,
  fun _ _ _ _ _ _ _ _ _ _ _ _ _ _ => Rx_tsw gMT_289 d289_45 rfl (by decide) rfl (by decide) rfl,
  fun _ _ _ _ _ _ _ _ _ _ _ _ _ _ => Rx_tsw gMT_289 d289_45 rfl (by decide) rfl (by decide) rfl,
  fun _ _ _ _ _ _ _ _ _ _ _ _ _ _ => Rx_tsw gMT_289 d289_45 rfl (by decide) rfl (by decide) rfl,
  fun _ _ _ _ _ _ _ _ _ _ _ _ _ _ => Rx_tsw gMT_289 d289_45 rfl (by decide) rfl (by decide) rfl,
  fun _ _ _ _ _ _ _ _ _ _ _ _ _ _ => Rx_tsw gMT_289 d289_45 rfl (by decide) rfl (by decide) rfl,
  fun _ _ _ _ _ _ _ _ _ _ _ _ _ _ => Rx_tsw gMT_289 d289_45 rfl (by decide) rfl (by decide) rfl,
  fun _ _ _ _ _ _ _ _ _ _ _ _ _ _ => Rx_tsw gMT_289 d289_45 rfl (by decide) rfl (by decide) rfl,
  fun _ _ _ _ _ _ _ _ _ _ _ _ _ _ _ h => Rx_tswD gMT_289 d289_45 rfl h (by decide) rfl,
  fun _ _ _ _ _ _ _ _ _ _ _ _ _ _ => Rx_of gMT_289 d289_264 rfl,
  fun _ _ _ _ _ _ _ _ _ _ _ _ _ => Rx_of gMT_289 d289_264 rfl,
  fun _ _ _ _ _ _ _ _ _ _ _ _ _ _ => Rx_of gMT_289 d289_265 rfl,
  fun _ _ _ _ _ _ _ _ _ _ _ _ _ => Rx_of gMT_289 d289_265 rfl⟩
theorem QLaw_law_3 : (∀ (E : sV) (d : Nat) (l0 : Option Value) (l1 : Option Value) (l2 : Option Value) (l3 : Option Value) (l4 : Option Value) (l6 : Option Value) (l7 : Option Value) (l8 : Option Value) (l9 : Option Value) (x : Int32) (st : List Value) (σ : sS), Rx E d 289 266 [l0, l1, l2, l3, l4, some (.int x), l6, l7, l8, l9] st σ = Rx E d 289 268 [l0, l1, l2, l3, l4, some (.int x), l6, l7, l8, l9] (.int x :: st) σ) ∧
  (∀ (E : sV) (d : Nat) (l0 l1 l2 l3 l4 l5 l6 l7 l8 l9 : Option Value) (st : List Value) (σ : sS), Rx E d 289 268 [l0, l1, l2, l3, l4, l5, l6, l7, l8, l9] st σ = Rx E d 289 269 [l0, l1, l2, l3, l4, l5, l6, l7, l8, l9] (.int (1) :: st) σ) ∧
  (∀ (E : sV) (d : Nat) (l0 l1 l2 l3 l4 l5 l6 l7 l8 l9 : Option Value) (x y : Int32) (st : List Value) (σ : sS), Rx E d 289 269 [l0, l1, l2, l3, l4, l5, l6, l7, l8, l9] (.int y :: .int x :: st) σ = Rx E d 289 270 [l0, l1, l2, l3, l4, l5, l6, l7, l8, l9] (.int (x + y) :: st) σ) ∧
  (∀ (E : sV) (d : Nat) (l0 l1 l2 l3 l4 l5 l6 l7 l8 l9 : Option Value) (i : Int32) (a : Nat) (st : List Value) (σ : sS), Rx E d 289 270 [l0, l1, l2, l3, l4, l5, l6, l7, l8, l9] (.int i :: .ref a :: st) σ = (aldI .int σ.1 a i).bind (fun v => Rx E d 289 271 [l0, l1, l2, l3, l4, l5, l6, l7, l8, l9] (v :: st) σ)) ∧
  (∀ (E : sV) (d : Nat) (l1 : Option Value) (l2 : Option Value) (l3 : Option Value) (l4 : Option Value) (l5 : Option Value) (l6 : Option Value) (l7 : Option Value) (l8 : Option Value) (l9 : Option Value) (x : Nat) (st : List Value) (σ : sS), Rx E d 289 271 [some (.ref x), l1, l2, l3, l4, l5, l6, l7, l8, l9] st σ = Rx E d 289 272 [some (.ref x), l1, l2, l3, l4, l5, l6, l7, l8, l9] (.ref x :: st) σ) ∧
  (∀ (E : sV) (d : Nat) (l1 : Option Value) (l2 : Option Value) (l3 : Option Value) (l4 : Option Value) (l5 : Option Value) (l6 : Option Value) (l7 : Option Value) (l8 : Option Value) (l9 : Option Value) (st : List Value) (σ : sS), Rx E d 289 271 [some (.null), l1, l2, l3, l4, l5, l6, l7, l8, l9] st σ = Rx E d 289 272 [some (.null), l1, l2, l3, l4, l5, l6, l7, l8, l9] (.null :: st) σ) ∧
  (∀ (E : sV) (d : Nat) (l0 : Option Value) (l1 : Option Value) (l2 : Option Value) (l3 : Option Value) (l4 : Option Value) (l6 : Option Value) (l7 : Option Value) (l8 : Option Value) (l9 : Option Value) (x : Int32) (st : List Value) (σ : sS), Rx E d 289 272 [l0, l1, l2, l3, l4, some (.int x), l6, l7, l8, l9] st σ = Rx E d 289 274 [l0, l1, l2, l3, l4, some (.int x), l6, l7, l8, l9] (.int x :: st) σ) ∧
  (∀ (E : sV) (d : Nat) (l0 l1 l2 l3 l4 l5 l6 l7 l8 l9 : Option Value) (st : List Value) (σ : sS), Rx E d 289 274 [l0, l1, l2, l3, l4, l5, l6, l7, l8, l9] st σ = Rx E d 289 275 [l0, l1, l2, l3, l4, l5, l6, l7, l8, l9] (.int (2) :: st) σ) ∧
  (∀ (E : sV) (d : Nat) (l0 l1 l2 l3 l4 l5 l6 l7 l8 l9 : Option Value) (x y : Int32) (st : List Value) (σ : sS), Rx E d 289 275 [l0, l1, l2, l3, l4, l5, l6, l7, l8, l9] (.int y :: .int x :: st) σ = Rx E d 289 276 [l0, l1, l2, l3, l4, l5, l6, l7, l8, l9] (.int (x + y) :: st) σ) ∧
  (∀ (E : sV) (d : Nat) (l0 l1 l2 l3 l4 l5 l6 l7 l8 l9 : Option Value) (i : Int32) (a : Nat) (st : List Value) (σ : sS), Rx E d 289 276 [l0, l1, l2, l3, l4, l5, l6, l7, l8, l9] (.int i :: .ref a :: st) σ = (aldI .int σ.1 a i).bind (fun v => Rx E d 289 277 [l0, l1, l2, l3, l4, l5, l6, l7, l8, l9] (v :: st) σ)) ∧
  (∀ (E : sV) (d : Nat) (l1 : Option Value) (l2 : Option Value) (l3 : Option Value) (l4 : Option Value) (l5 : Option Value) (l6 : Option Value) (l7 : Option Value) (l8 : Option Value) (l9 : Option Value) (x : Nat) (st : List Value) (σ : sS), Rx E d 289 277 [some (.ref x), l1, l2, l3, l4, l5, l6, l7, l8, l9] st σ = Rx E d 289 278 [some (.ref x), l1, l2, l3, l4, l5, l6, l7, l8, l9] (.ref x :: st) σ) ∧
  (∀ (E : sV) (d : Nat) (l1 : Option Value) (l2 : Option Value) (l3 : Option Value) (l4 : Option Value) (l5 : Option Value) (l6 : Option Value) (l7 : Option Value) (l8 : Option Value) (l9 : Option Value) (st : List Value) (σ : sS), Rx E d 289 277 [some (.null), l1, l2, l3, l4, l5, l6, l7, l8, l9] st σ = Rx E d 289 278 [some (.null), l1, l2, l3, l4, l5, l6, l7, l8, l9] (.null :: st) σ) ∧
  (∀ (E : sV) (d : Nat) (l0 : Option Value) (l1 : Option Value) (l2 : Option Value) (l3 : Option Value) (l4 : Option Value) (l6 : Option Value) (l7 : Option Value) (l8 : Option Value) (l9 : Option Value) (x : Int32) (st : List Value) (σ : sS), Rx E d 289 278 [l0, l1, l2, l3, l4, some (.int x), l6, l7, l8, l9] st σ = Rx E d 289 280 [l0, l1, l2, l3, l4, some (.int x), l6, l7, l8, l9] (.int x :: st) σ) ∧
  (∀ (E : sV) (d : Nat) (l0 l1 l2 l3 l4 l5 l6 l7 l8 l9 : Option Value) (st : List Value) (σ : sS), Rx E d 289 280 [l0, l1, l2, l3, l4, l5, l6, l7, l8, l9] st σ = Rx E d 289 281 [l0, l1, l2, l3, l4, l5, l6, l7, l8, l9] (.int (3) :: st) σ) ∧
  (∀ (E : sV) (d : Nat) (l0 l1 l2 l3 l4 l5 l6 l7 l8 l9 : Option Value) (x y : Int32) (st : List Value) (σ : sS), Rx E d 289 281 [l0, l1, l2, l3, l4, l5, l6, l7, l8, l9] (.int y :: .int x :: st) σ = Rx E d 289 282 [l0, l1, l2, l3, l4, l5, l6, l7, l8, l9] (.int (x + y) :: st) σ) ∧
  (∀ (E : sV) (d : Nat) (l0 l1 l2 l3 l4 l5 l6 l7 l8 l9 : Option Value) (i : Int32) (a : Nat) (st : List Value) (σ : sS), Rx E d 289 282 [l0, l1, l2, l3, l4, l5, l6, l7, l8, l9] (.int i :: .ref a :: st) σ = (aldI .int σ.1 a i).bind (fun v => Rx E d 289 283 [l0, l1, l2, l3, l4, l5, l6, l7, l8, l9] (v :: st) σ)) ∧
  (∀ (E : sV) (d : Nat) (l0 l1 l2 l3 l4 l5 l6 l7 l8 l9 : Option Value) (x : Int32) (st : List Value) (σ : sS), Rx E d 289 283 [l0, l1, l2, l3, l4, l5, l6, l7, l8, l9] (.int x :: st) σ = Rx E d 289 284 [l0, l1, l2, l3, l4, l5, l6, l7, l8, l9] (.int (x.toUInt32 % 65536).toInt32 :: st) σ) ∧
  (∀ (E : sV) (d : Nat) (l1 : Option Value) (l2 : Option Value) (l3 : Option Value) (l4 : Option Value) (l5 : Option Value) (l6 : Option Value) (l7 : Option Value) (l8 : Option Value) (l9 : Option Value) (x : Nat) (st : List Value) (σ : sS), Rx E d 289 284 [some (.ref x), l1, l2, l3, l4, l5, l6, l7, l8, l9] st σ = Rx E d 289 285 [some (.ref x), l1, l2, l3, l4, l5, l6, l7, l8, l9] (.ref x :: st) σ) ∧
  (∀ (E : sV) (d : Nat) (l1 : Option Value) (l2 : Option Value) (l3 : Option Value) (l4 : Option Value) (l5 : Option Value) (l6 : Option Value) (l7 : Option Value) (l8 : Option Value) (l9 : Option Value) (st : List Value) (σ : sS), Rx E d 289 284 [some (.null), l1, l2, l3, l4, l5, l6, l7, l8, l9] st σ = Rx E d 289 285 [some (.null), l1, l2, l3, l4, l5, l6, l7, l8, l9] (.null :: st) σ) ∧
  (∀ (E : sV) (d : Nat) (l0 : Option Value) (l1 : Option Value) (l2 : Option Value) (l3 : Option Value) (l4 : Option Value) (l6 : Option Value) (l7 : Option Value) (l8 : Option Value) (l9 : Option Value) (x : Int32) (st : List Value) (σ : sS), Rx E d 289 285 [l0, l1, l2, l3, l4, some (.int x), l6, l7, l8, l9] st σ = Rx E d 289 287 [l0, l1, l2, l3, l4, some (.int x), l6, l7, l8, l9] (.int x :: st) σ) ∧
  (∀ (E : sV) (d : Nat) (l0 l1 l2 l3 l4 l5 l6 l7 l8 l9 : Option Value) (st : List Value) (σ : sS), Rx E d 289 287 [l0, l1, l2, l3, l4, l5, l6, l7, l8, l9] st σ = Rx E d 289 288 [l0, l1, l2, l3, l4, l5, l6, l7, l8, l9] (.int (4) :: st) σ) ∧
  (∀ (E : sV) (d : Nat) (l0 l1 l2 l3 l4 l5 l6 l7 l8 l9 : Option Value) (x y : Int32) (st : List Value) (σ : sS), Rx E d 289 288 [l0, l1, l2, l3, l4, l5, l6, l7, l8, l9] (.int y :: .int x :: st) σ = Rx E d 289 289 [l0, l1, l2, l3, l4, l5, l6, l7, l8, l9] (.int (x + y) :: st) σ) ∧
  (∀ (E : sV) (d : Nat) (l0 l1 l2 l3 l4 l5 l6 l7 l8 l9 : Option Value) (i : Int32) (a : Nat) (st : List Value) (σ : sS), Rx E d 289 289 [l0, l1, l2, l3, l4, l5, l6, l7, l8, l9] (.int i :: .ref a :: st) σ = (aldI .int σ.1 a i).bind (fun v => Rx E d 289 290 [l0, l1, l2, l3, l4, l5, l6, l7, l8, l9] (v :: st) σ)) ∧
  (∀ (E : sV) (d : Nat) (l1 : Option Value) (l2 : Option Value) (l3 : Option Value) (l4 : Option Value) (l5 : Option Value) (l6 : Option Value) (l7 : Option Value) (l8 : Option Value) (l9 : Option Value) (x : Nat) (st : List Value) (σ : sS), Rx E d 289 290 [some (.ref x), l1, l2, l3, l4, l5, l6, l7, l8, l9] st σ = Rx E d 289 291 [some (.ref x), l1, l2, l3, l4, l5, l6, l7, l8, l9] (.ref x :: st) σ) ∧
  (∀ (E : sV) (d : Nat) (l1 : Option Value) (l2 : Option Value) (l3 : Option Value) (l4 : Option Value) (l5 : Option Value) (l6 : Option Value) (l7 : Option Value) (l8 : Option Value) (l9 : Option Value) (st : List Value) (σ : sS), Rx E d 289 290 [some (.null), l1, l2, l3, l4, l5, l6, l7, l8, l9] st σ = Rx E d 289 291 [some (.null), l1, l2, l3, l4, l5, l6, l7, l8, l9] (.null :: st) σ) ∧
  (∀ (E : sV) (d : Nat) (l0 : Option Value) (l1 : Option Value) (l2 : Option Value) (l3 : Option Value) (l4 : Option Value) (l6 : Option Value) (l7 : Option Value) (l8 : Option Value) (l9 : Option Value) (x : Int32) (st : List Value) (σ : sS), Rx E d 289 291 [l0, l1, l2, l3, l4, some (.int x), l6, l7, l8, l9] st σ = Rx E d 289 293 [l0, l1, l2, l3, l4, some (.int x), l6, l7, l8, l9] (.int x :: st) σ) ∧
  (∀ (E : sV) (d : Nat) (l0 l1 l2 l3 l4 l5 l6 l7 l8 l9 : Option Value) (st : List Value) (σ : sS), Rx E d 289 293 [l0, l1, l2, l3, l4, l5, l6, l7, l8, l9] st σ = Rx E d 289 294 [l0, l1, l2, l3, l4, l5, l6, l7, l8, l9] (.int (5) :: st) σ) ∧
  (∀ (E : sV) (d : Nat) (l0 l1 l2 l3 l4 l5 l6 l7 l8 l9 : Option Value) (x y : Int32) (st : List Value) (σ : sS), Rx E d 289 294 [l0, l1, l2, l3, l4, l5, l6, l7, l8, l9] (.int y :: .int x :: st) σ = Rx E d 289 295 [l0, l1, l2, l3, l4, l5, l6, l7, l8, l9] (.int (x + y) :: st) σ) ∧
  (∀ (E : sV) (d : Nat) (l0 l1 l2 l3 l4 l5 l6 l7 l8 l9 : Option Value) (i : Int32) (a : Nat) (st : List Value) (σ : sS), Rx E d 289 295 [l0, l1, l2, l3, l4, l5, l6, l7, l8, l9] (.int i :: .ref a :: st) σ = (aldI .int σ.1 a i).bind (fun v => Rx E d 289 296 [l0, l1, l2, l3, l4, l5, l6, l7, l8, l9] (v :: st) σ)) ∧
  (∀ (E : sV) (d : Nat) (l1 : Option Value) (l2 : Option Value) (l3 : Option Value) (l4 : Option Value) (l5 : Option Value) (l6 : Option Value) (l7 : Option Value) (l8 : Option Value) (l9 : Option Value) (x : Nat) (st : List Value) (σ : sS), Rx E d 289 296 [some (.ref x), l1, l2, l3, l4, l5, l6, l7, l8, l9] st σ = Rx E d 289 297 [some (.ref x), l1, l2, l3, l4, l5, l6, l7, l8, l9] (.ref x :: st) σ) := ⟨fun _ _ _ _ _ _ _ _ _ _ _ _ _ _ => Rx_of gMT_289 d289_266 rfl,
  fun _ _ _ _ _ _ _ _ _ _ _ _ _ _ => Rx_of gMT_289 d289_268 rfl,
  fun _ _ _ _ _ _ _ _ _ _ _ _ _ _ _ _ => Rx_of gMT_289 d289_269 rfl,
  fun _ _ _ _ _ _ _ _ _ _ _ _ _ _ _ _ => Rx_ald gMT_289 d289_270 rfl rfl,
  fun _ _ _ _ _ _ _ _ _ _ _ _ _ _ => Rx_of gMT_289 d289_271 rfl,
  fun _ _ _ _ _ _ _ _ _ _ _ _ _ => Rx_of gMT_289 d289_271 rfl,
  fun _ _ _ _ _ _ _ _ _ _ _ _ _ _ => Rx_of gMT_289 d289_272 rfl,
  fun _ _ _ _ _ _ _ _ _ _ _ _ _ _ => Rx_of gMT_289 d289_274 rfl,
  fun _ _ _ _ _ _ _ _ _ _ _ _ _ _ _ _ => Rx_of gMT_289 d289_275 rfl,
  fun _ _ _ _ _ _ _ _ _ _ _ _ _ _ _ _ => Rx_ald gMT_289 d289_276 rfl rfl,
  fun _ _ _ _ _ _ _ _ _ _ _ _ _ _ => Rx_of gMT_289 d289_277 rfl,
  fun _ _ _ _ _ _ _ _ _ _ _ _ _ => Rx_of gMT_289 d289_277 rfl,
  fun _ _ _ _ _ _ _ _ _ _ _ _ _ _ => Rx_of gMT_289 d289_278 rfl,
  fun _ _ _ _ _ _ _ _ _ _ _ _ _ _ => Rx_of gMT_289 d289_280 rfl,
  fun _ _ _ _ _ _ _ _ _ _ _ _ _ _ _ _ => Rx_of gMT_289 d289_281 rfl,
  fun _ _ _ _ _ _ _ _ _ _ _ _ _ _ _ _ => Rx_ald gMT_289 d289_282 rfl rfl,
  fun _ _ _ _ _ _ _ _ _ _ _ _ _ _ _ => Rx_of gMT_289 d289_283 rfl,
  fun _ _ _ _ _ _ _ _ _ _ _ _ _ _ => Rx_of gMT_289 d289_284 rfl,
  fun _ _ _ _ _ _ _ _ _ _ _ _ _ => Rx_of gMT_289 d289_284 rfl,
  fun _ _ _ _ _ _ _ _ _ _ _ _ _ _ => Rx_of gMT_289 d289_285 rfl,
  fun _ _ _ _ _ _ _ _ _ _ _ _ _ _ => Rx_of gMT_289 d289_287 rfl,
  fun _ _ _ _ _ _ _ _ _ _ _ _ _ _ _ _ => Rx_of gMT_289 d289_288 rfl,
  fun _ _ _ _ _ _ _ _ _ _ _ _ _ _ _ _ => Rx_ald gMT_289 d289_289 rfl rfl,
  fun _ _ _ _ _ _ _ _ _ _ _ _ _ _ => Rx_of gMT_289 d289_290 rfl,
  fun _ _ _ _ _ _ _ _ _ _ _ _ _ => Rx_of gMT_289 d289_290 rfl,
  fun _ _ _ _ _ _ _ _ _ _ _ _ _ _ => Rx_of gMT_289 d289_291 rfl,
  fun _ _ _ _ _ _ _ _ _ _ _ _ _ _ => Rx_of gMT_289 d289_293 rfl,
  fun _ _ _ _ _ _ _ _ _ _ _ _ _ _ _ _ => Rx_of gMT_289 d289_294 rfl,
  fun _ _ _ _ _ _ _ _ _ _ _ _ _ _ _ _ => Rx_ald gMT_289 d289_295 rfl rfl,
  fun _ _ _ _ _ _ _ _ _ _ _ _ _ _ => Rx_of gMT_289 d289_296 rfl⟩
theorem QLaw_law_4 : (∀ (E : sV) (d : Nat) (l1 : Option Value) (l2 : Option Value) (l3 : Option Value) (l4 : Option Value) (l5 : Option Value) (l6 : Option Value) (l7 : Option Value) (l8 : Option Value) (l9 : Option Value) (st : List Value) (σ : sS), Rx E d 289 296 [some (.null), l1, l2, l3, l4, l5, l6, l7, l8, l9] st σ = Rx E d 289 297 [some (.null), l1, l2, l3, l4, l5, l6, l7, l8, l9] (.null :: st) σ) ∧
  (∀ (E : sV) (d : Nat) (l0 : Option Value) (l1 : Option Value) (l2 : Option Value) (l3 : Option Value) (l4 : Option Value) (l6 : Option Value) (l7 : Option Value) (l8 : Option Value) (l9 : Option Value) (x : Int32) (st : List Value) (σ : sS), Rx E d 289 297 [l0, l1, l2, l3, l4, some (.int x), l6, l7, l8, l9] st σ = Rx E d 289 299 [l0, l1, l2, l3, l4, some (.int x), l6, l7, l8, l9] (.int x :: st) σ) ∧
  (∀ (E : sV) (d : Nat) (l0 l1 l2 l3 l4 l5 l6 l7 l8 l9 : Option Value) (st : List Value) (σ : sS), Rx E d 289 299 [l0, l1, l2, l3, l4, l5, l6, l7, l8, l9] st σ = Rx E d 289 301 [l0, l1, l2, l3, l4, l5, l6, l7, l8, l9] (.int (6) :: st) σ) ∧
  (∀ (E : sV) (d : Nat) (l0 l1 l2 l3 l4 l5 l6 l7 l8 l9 : Option Value) (x y : Int32) (st : List Value) (σ : sS), Rx E d 289 301 [l0, l1, l2, l3, l4, l5, l6, l7, l8, l9] (.int y :: .int x :: st) σ = Rx E d 289 302 [l0, l1, l2, l3, l4, l5, l6, l7, l8, l9] (.int (x + y) :: st) σ) ∧
  (∀ (E : sV) (d : Nat) (l0 l1 l2 l3 l4 l5 l6 l7 l8 l9 : Option Value) (i : Int32) (a : Nat) (st : List Value) (σ : sS), Rx E d 289 302 [l0, l1, l2, l3, l4, l5, l6, l7, l8, l9] (.int i :: .ref a :: st) σ = (aldI .int σ.1 a i).bind (fun v => Rx E d 289 303 [l0, l1, l2, l3, l4, l5, l6, l7, l8, l9] (v :: st) σ)) ∧
  (∀ (E : sV) (d : Nat) (l0 : Option Value) (l1 : Option Value) (l2 : Option Value) (l4 : Option Value) (l5 : Option Value) (l6 : Option Value) (l7 : Option Value) (l8 : Option Value) (l9 : Option Value) (x : Nat) (st : List Value) (σ : sS), Rx E d 289 303 [l0, l1, l2, some (.ref x), l4, l5, l6, l7, l8, l9] st σ = Rx E d 289 304 [l0, l1, l2, some (.ref x), l4, l5, l6, l7, l8, l9] (.ref x :: st) σ) ∧
  (∀ (E : sV) (d : Nat) (l0 : Option Value) (l1 : Option Value) (l2 : Option Value) (l4 : Option Value) (l5 : Option Value) (l6 : Option Value) (l7 : Option Value) (l8 : Option Value) (l9 : Option Value) (st : List Value) (σ : sS), Rx E d 289 303 [l0, l1, l2, some (.null), l4, l5, l6, l7, l8, l9] st σ = Rx E d 289 304 [l0, l1, l2, some (.null), l4, l5, l6, l7, l8, l9] (.null :: st) σ) ∧
  (∀ (E : sV) (d : Nat) (l0 l1 l2 l3 l4 l5 l6 l7 l8 l9 : Option Value) (v1 v2 v3 v4 v5 v6 v7 v8 : Value) (st : List Value) (σ : sS), Rx E d 289 304 [l0, l1, l2, l3, l4, l5, l6, l7, l8, l9] (v8 :: v7 :: v6 :: v5 :: v4 :: v3 :: v2 :: v1 :: st) σ = if cats st ≤ 8 then callK (Mt E d 246 [v1, v2, v3, v4, v5, v6, v7, v8] σ) (fun v σ => Rx E d 289 307 [l0, l1, l2, l3, l4, l5, l6, l7, l8, l9] (v.toList ++ st) σ) else none) ∧
  (∀ (E : sV) (d : Nat) (l0 l1 l2 l3 l4 l5 l6 l7 l8 l9 : Option Value) (x : Int32) (st : List Value) (σ : sS), Rx E d 289 307 [l0, l1, l2, l3, l4, l5, l6, l7, l8, l9] (.int x :: st) σ = Rx E d 289 309 [l0, l1, l2, l3, l4, ldrop l5, some (.int x), l7, l8, l9] st σ) ∧
  (∀ (E : sV) (d : Nat) (l0 : Option Value) (l1 : Option Value) (l3 : Option Value) (l4 : Option Value) (l5 : Option Value) (l6 : Option Value) (l7 : Option Value) (l8 : Option Value) (l9 : Option Value) (x : Nat) (st : List Value) (σ : sS), Rx E d 289 309 [l0, l1, some (.ref x), l3, l4, l5, l6, l7, l8, l9] st σ = Rx E d 289 310 [l0, l1, some (.ref x), l3, l4, l5, l6, l7, l8, l9] (.ref x :: st) σ) ∧
  (∀ (E : sV) (d : Nat) (l0 : Option Value) (l1 : Option Value) (l3 : Option Value) (l4 : Option Value) (l5 : Option Value) (l6 : Option Value) (l7 : Option Value) (l8 : Option Value) (l9 : Option Value) (st : List Value) (σ : sS), Rx E d 289 309 [l0, l1, some (.null), l3, l4, l5, l6, l7, l8, l9] st σ = Rx E d 289 310 [l0, l1, some (.null), l3, l4, l5, l6, l7, l8, l9] (.null :: st) σ) ∧
  (∀ (E : sV) (d : Nat) (l1 : Option Value) (l2 : Option Value) (l3 : Option Value) (l4 : Option Value) (l5 : Option Value) (l6 : Option Value) (l7 : Option Value) (l8 : Option Value) (l9 : Option Value) (x : Nat) (st : List Value) (σ : sS), Rx E d 289 310 [some (.ref x), l1, l2, l3, l4, l5, l6, l7, l8, l9] st σ = Rx E d 289 311 [some (.ref x), l1, l2, l3, l4, l5, l6, l7, l8, l9] (.ref x :: st) σ) ∧
  (∀ (E : sV) (d : Nat) (l1 : Option Value) (l2 : Option Value) (l3 : Option Value) (l4 : Option Value) (l5 : Option Value) (l6 : Option Value) (l7 : Option Value) (l8 : Option Value) (l9 : Option Value) (st : List Value) (σ : sS), Rx E d 289 310 [some (.null), l1, l2, l3, l4, l5, l6, l7, l8, l9] st σ = Rx E d 289 311 [some (.null), l1, l2, l3, l4, l5, l6, l7, l8, l9] (.null :: st) σ) ∧
  (∀ (E : sV) (d : Nat) (l0 : Option Value) (l1 : Option Value) (l2 : Option Value) (l3 : Option Value) (l4 : Option Value) (l6 : Option Value) (l7 : Option Value) (l8 : Option Value) (l9 : Option Value) (x : Int32) (st : List Value) (σ : sS), Rx E d 289 311 [l0, l1, l2, l3, l4, some (.int x), l6, l7, l8, l9] st σ = Rx E d 289 313 [l0, l1, l2, l3, l4, some (.int x), l6, l7, l8, l9] (.int x :: st) σ) ∧
  (∀ (E : sV) (d : Nat) (l0 l1 l2 l3 l4 l5 l6 l7 l8 l9 : Option Value) (st : List Value) (σ : sS), Rx E d 289 313 [l0, l1, l2, l3, l4, l5, l6, l7, l8, l9] st σ = Rx E d 289 314 [l0, l1, l2, l3, l4, l5, l6, l7, l8, l9] (.int (1) :: st) σ) ∧
  (∀ (E : sV) (d : Nat) (l0 l1 l2 l3 l4 l5 l6 l7 l8 l9 : Option Value) (x y : Int32) (st : List Value) (σ : sS), Rx E d 289 314 [l0, l1, l2, l3, l4, l5, l6, l7, l8, l9] (.int y :: .int x :: st) σ = Rx E d 289 315 [l0, l1, l2, l3, l4, l5, l6, l7, l8, l9] (.int (x + y) :: st) σ) ∧
  (∀ (E : sV) (d : Nat) (l0 l1 l2 l3 l4 l5 l6 l7 l8 l9 : Option Value) (i : Int32) (a : Nat) (st : List Value) (σ : sS), Rx E d 289 315 [l0, l1, l2, l3, l4, l5, l6, l7, l8, l9] (.int i :: .ref a :: st) σ = (aldI .int σ.1 a i).bind (fun v => Rx E d 289 316 [l0, l1, l2, l3, l4, l5, l6, l7, l8, l9] (v :: st) σ)) ∧
  (∀ (E : sV) (d : Nat) (l1 : Option Value) (l2 : Option Value) (l3 : Option Value) (l4 : Option Value) (l5 : Option Value) (l6 : Option Value) (l7 : Option Value) (l8 : Option Value) (l9 : Option Value) (x : Nat) (st : List Value) (σ : sS), Rx E d 289 316 [some (.ref x), l1, l2, l3, l4, l5, l6, l7, l8, l9] st σ = Rx E d 289 317 [some (.ref x), l1, l2, l3, l4, l5, l6, l7, l8, l9] (.ref x :: st) σ) ∧
  (∀ (E : sV) (d : Nat) (l1 : Option Value) (l2 : Option Value) (l3 : Option Value) (l4 : Option Value) (l5 : Option Value) (l6 : Option Value) (l7 : Option Value) (l8 : Option Value) (l9 : Option Value) (st : List Value) (σ : sS), Rx E d 289 316 [some (.null), l1, l2, l3, l4, l5, l6, l7, l8, l9] st σ = Rx E d 289 317 [some (.null), l1, l2, l3, l4, l5, l6, l7, l8, l9] (.null :: st) σ) ∧
  (∀ (E : sV) (d : Nat) (l0 : Option Value) (l1 : Option Value) (l2 : Option Value) (l3 : Option Value) (l4 : Option Value) (l6 : Option Value) (l7 : Option Value) (l8 : Option Value) (l9 : Option Value) (x : Int32) (st : List Value) (σ : sS), Rx E d 289 317 [l0, l1, l2, l3, l4, some (.int x), l6, l7, l8, l9] st σ = Rx E d 289 319 [l0, l1, l2, l3, l4, some (.int x), l6, l7, l8, l9] (.int x :: st) σ) ∧
  (∀ (E : sV) (d : Nat) (l0 l1 l2 l3 l4 l5 l6 l7 l8 l9 : Option Value) (st : List Value) (σ : sS), Rx E d 289 319 [l0, l1, l2, l3, l4, l5, l6, l7, l8, l9] st σ = Rx E d 289 320 [l0, l1, l2, l3, l4, l5, l6, l7, l8, l9] (.int (2) :: st) σ) ∧
  (∀ (E : sV) (d : Nat) (l0 l1 l2 l3 l4 l5 l6 l7 l8 l9 : Option Value) (x y : Int32) (st : List Value) (σ : sS), Rx E d 289 320 [l0, l1, l2, l3, l4, l5, l6, l7, l8, l9] (.int y :: .int x :: st) σ = Rx E d 289 321 [l0, l1, l2, l3, l4, l5, l6, l7, l8, l9] (.int (x + y) :: st) σ) ∧
  (∀ (E : sV) (d : Nat) (l0 l1 l2 l3 l4 l5 l6 l7 l8 l9 : Option Value) (i : Int32) (a : Nat) (st : List Value) (σ : sS), Rx E d 289 321 [l0, l1, l2, l3, l4, l5, l6, l7, l8, l9] (.int i :: .ref a :: st) σ = (aldI .int σ.1 a i).bind (fun v => Rx E d 289 322 [l0, l1, l2, l3, l4, l5, l6, l7, l8, l9] (v :: st) σ)) ∧
  (∀ (E : sV) (d : Nat) (l1 : Option Value) (l2 : Option Value) (l3 : Option Value) (l4 : Option Value) (l5 : Option Value) (l6 : Option Value) (l7 : Option Value) (l8 : Option Value) (l9 : Option Value) (x : Nat) (st : List Value) (σ : sS), Rx E d 289 322 [some (.ref x), l1, l2, l3, l4, l5, l6, l7, l8, l9] st σ = Rx E d 289 323 [some (.ref x), l1, l2, l3, l4, l5, l6, l7, l8, l9] (.ref x :: st) σ) ∧
  (∀ (E : sV) (d : Nat) (l1 : Option Value) (l2 : Option Value) (l3 : Option Value) (l4 : Option Value) (l5 : Option Value) (l6 : Option Value) (l7 : Option Value) (l8 : Option Value) (l9 : Option Value) (st : List Value) (σ : sS), Rx E d 289 322 [some (.null), l1, l2, l3, l4, l5, l6, l7, l8, l9] st σ = Rx E d 289 323 [some (.null), l1, l2, l3, l4, l5, l6, l7, l8, l9] (.null :: st) σ) ∧
  (∀ (E : sV) (d : Nat) (l0 : Option Value) (l1 : Option Value) (l2 : Option Value) (l3 : Option Value) (l4 : Option Value) (l6 : Option Value) (l7 : Option Value) (l8 : Option Value) (l9 : Option Value) (x : Int32) (st : List Value) (σ : sS), Rx E d 289 323 [l0, l1, l2, l3, l4, some (.int x), l6, l7, l8, l9] st σ = Rx E d 289 325 [l0, l1, l2, l3, l4, some (.int x), l6, l7, l8, l9] (.int x :: st) σ) ∧
  (∀ (E : sV) (d : Nat) (l0 l1 l2 l3 l4 l5 l6 l7 l8 l9 : Option Value) (st : List Value) (σ : sS), Rx E d 289 325 [l0, l1, l2, l3, l4, l5, l6, l7, l8, l9] st σ = Rx E d 289 326 [l0, l1, l2, l3, l4, l5, l6, l7, l8, l9] (.int (3) :: st) σ) ∧
  (∀ (E : sV) (d : Nat) (l0 l1 l2 l3 l4 l5 l6 l7 l8 l9 : Option Value) (x y : Int32) (st : List Value) (σ : sS), Rx E d 289 326 [l0, l1, l2, l3, l4, l5, l6, l7, l8, l9] (.int y :: .int x :: st) σ = Rx E d 289 327 [l0, l1, l2, l3, l4, l5, l6, l7, l8, l9] (.int (x + y) :: st) σ) ∧
  (∀ (E : sV) (d : Nat) (l0 l1 l2 l3 l4 l5 l6 l7 l8 l9 : Option Value) (i : Int32) (a : Nat) (st : List Value) (σ : sS), Rx E d 289 327 [l0, l1, l2, l3, l4, l5, l6, l7, l8, l9] (.int i :: .ref a :: st) σ = (aldI .int σ.1 a i).bind (fun v => Rx E d 289 328 [l0, l1, l2, l3, l4, l5, l6, l7, l8, l9] (v :: st) σ)) ∧
  (∀ (E : sV) (d : Nat) (l0 l1 l2 l3 l4 l5 l6 l7 l8 l9 : Option Value) (x : Int32) (st : List Value) (σ : sS), Rx E d 289 328 [l0, l1, l2, l3, l4, l5, l6, l7, l8, l9] (.int x :: st) σ = Rx E d 289 329 [l0, l1, l2, l3, l4, l5, l6, l7, l8, l9] (.int (x.toUInt32 % 65536).toInt32 :: st) σ) := ⟨fun _ _ _ _ _ _ _ _ _ _ _ _ _ => Rx_of gMT_289 d289_296 rfl,
  fun _ _ _ _ _ _ _ _ _ _ _ _ _ _ => Rx_of gMT_289 d289_297 rfl,
  fun _ _ _ _ _ _ _ _ _ _ _ _ _ _ => Rx_of gMT_289 d289_299 rfl,
  fun _ _ _ _ _ _ _ _ _ _ _ _ _ _ _ _ => Rx_of gMT_289 d289_301 rfl,
  fun _ _ _ _ _ _ _ _ _ _ _ _ _ _ _ _ => Rx_ald gMT_289 d289_302 rfl rfl,
  fun _ _ _ _ _ _ _ _ _ _ _ _ _ _ => Rx_of gMT_289 d289_303 rfl,
  fun _ _ _ _ _ _ _ _ _ _ _ _ _ => Rx_of gMT_289 d289_303 rfl,
  fun _ _ _ _ _ _ _ _ _ _ _ _ _ _ _ _ _ _ _ _ _ _ => Rx_callS gMT_289 d289_304 rfl rfl rfl rfl rfl,
  fun _ _ _ _ _ _ _ _ _ _ _ _ _ _ _ => Rx_of gMT_289 d289_307 rfl,
  fun _ _ _ _ _ _ _ _ _ _ _ _ _ _ => Rx_of gMT_289 d289_309 rfl,
  fun _ _ _ _ _ _ _ _ _ _ _ _ _ => Rx_of gMT_289 d289_309 rfl,
  fun _ _ _ _ _ _ _ _ _ _ _ _ _ _ => Rx_of gMT_289 d289_310 rfl,
  fun _ _ _ _ _ _ _ _ _ _ _ _ _ => Rx_of gMT_289 d289_310 rfl,
  fun _ _ _ _ _ _ _ _ _ _ _ _ _ _ => Rx_of gMT_289 d289_311 rfl,
  fun _ _ _ _ _ _ _ _ _ _ _ _ _ _ => Rx_of gMT_289 d289_313 rfl,
  fun _ _ _ _ _ _ _ _ _ _ _ _ _ _ _ _ => Rx_of gMT_289 d289_314 rfl,
  fun _ _ _ _ _ _ _ _ _ _ _ _ _ _ _ _ => Rx_ald gMT_289 d289_315 rfl rfl,
  fun _ _ _ _ _ _ _ _ _ _ _ _ _ _ => Rx_of gMT_289 d289_316 rfl,
  fun _ _ _ _ _ _ _ _ _ _ _ _ _ => Rx_of gMT_289 d289_316 rfl,
  fun _ _ _ _ _ _ _ _ _ _ _ _ _ _ => Rx_of gMT_289 d289_317 rfl,
  fun _ _ _ _ _ _ _ _ _ _ _ _ _ _ => Rx_of gMT_289 d289_319 rfl,
  fun _ _ _ _ _ _ _ _ _ _ _ _ _ _ _ _ => Rx_of gMT_289 d289_320 rfl,
  fun _ _ _ _ _ _ _ _ _ _ _ _ _ _ _ _ => Rx_ald gMT_289 d289_321 rfl rfl,
  fun _ _ _ _ _ _ _ _ _ _ _ _ _ _ => Rx_of gMT_289 d289_322 rfl,
  fun _ _ _ _ _ _ _ _ _ _ _ _ _ => Rx_of gMT_289 d289_322 rfl,
  fun _ _ _ _ _ _ _ _ _ _ _ _ _ _ => Rx_of gMT_289 d289_323 rfl,
  fun _ _ _ _ _ _ _ _ _ _ _ _ _ _ => Rx_of gMT_289 d289_325 rfl,
  fun _ _ _ _ _ _ _ _ _ _ _ _ _ _ _ _ => Rx_of gMT_289 d289_326 rfl,
  fun _ _ _ _ _ _ _ _ _ _ _ _ _ _ _ _ => Rx_ald gMT_289 d289_327 rfl rfl,
  fun _ _ _ _ _ _ _ _ _ _ _ _ _ _ _ => Rx_of gMT_289 d289_328 rfl⟩
theorem QLaw_law_5 : (∀ (E : sV) (d : Nat) (l1 : Option Value) (l2 : Option Value) (l3 : Option Value) (l4 : Option Value) (l5 : Option Value) (l6 : Option Value) (l7 : Option Value) (l8 : Option Value) (l9 : Option Value) (x : Nat) (st : List Value) (σ : sS), Rx E d 289 329 [some (.ref x), l1, l2, l3, l4, l5, l6, l7, l8, l9] st σ = Rx E d 289 330 [some (.ref x), l1, l2, l3, l4, l5, l6, l7, l8, l9] (.ref x :: st) σ) ∧
  (∀ (E : sV) (d : Nat) (l1 : Option Value) (l2 : Option Value) (l3 : Option Value) (l4 : Option Value) (l5 : Option Value) (l6 : Option Value) (l7 : Option Value) (l8 : Option Value) (l9 : Option Value) (st : List Value) (σ : sS), Rx E d 289 329 [some (.null), l1, l2, l3, l4, l5, l6, l7, l8, l9] st σ = Rx E d 289 330 [some (.null), l1, l2, l3, l4, l5, l6, l7, l8, l9] (.null :: st) σ) ∧
  (∀ (E : sV) (d : Nat) (l0 : Option Value) (l1 : Option Value) (l2 : Option Value) (l3 : Option Value) (l4 : Option Value) (l6 : Option Value) (l7 : Option Value) (l8 : Option Value) (l9 : Option Value) (x : Int32) (st : List Value) (σ : sS), Rx E d 289 330 [l0, l1, l2, l3, l4, some (.int x), l6, l7, l8, l9] st σ = Rx E d 289 332 [l0, l1, l2, l3, l4, some (.int x), l6, l7, l8, l9] (.int x :: st) σ) ∧
  (∀ (E : sV) (d : Nat) (l0 l1 l2 l3 l4 l5 l6 l7 l8 l9 : Option Value) (st : List Value) (σ : sS), Rx E d 289 332 [l0, l1, l2, l3, l4, l5, l6, l7, l8, l9] st σ = Rx E d 289 333 [l0, l1, l2, l3, l4, l5, l6, l7, l8, l9] (.int (4) :: st) σ) ∧
  (∀ (E : sV) (d : Nat) (l0 l1 l2 l3 l4 l5 l6 l7 l8 l9 : Option Value) (x y : Int32) (st : List Value) (σ : sS), Rx E d 289 333 [l0, l1, l2, l3, l4, l5, l6, l7, l8, l9] (.int y :: .int x :: st) σ = Rx E d 289 334 [l0, l1, l2, l3, l4, l5, l6, l7, l8, l9] (.int (x + y) :: st) σ) ∧
  (∀ (E : sV) (d : Nat) (l0 l1 l2 l3 l4 l5 l6 l7 l8 l9 : Option Value) (i : Int32) (a : Nat) (st : List Value) (σ : sS), Rx E d 289 334 [l0, l1, l2, l3, l4, l5, l6, l7, l8, l9] (.int i :: .ref a :: st) σ = (aldI .int σ.1 a i).bind (fun v => Rx E d 289 335 [l0, l1, l2, l3, l4, l5, l6, l7, l8, l9] (v :: st) σ)) ∧
  (∀ (E : sV) (d : Nat) (l1 : Option Value) (l2 : Option Value) (l3 : Option Value) (l4 : Option Value) (l5 : Option Value) (l6 : Option Value) (l7 : Option Value) (l8 : Option Value) (l9 : Option Value) (x : Nat) (st : List Value) (σ : sS), Rx E d 289 335 [some (.ref x), l1, l2, l3, l4, l5, l6, l7, l8, l9] st σ = Rx E d 289 336 [some (.ref x), l1, l2, l3, l4, l5, l6, l7, l8, l9] (.ref x :: st) σ) ∧
  (∀ (E : sV) (d : Nat) (l1 : Option Value) (l2 : Option Value) (l3 : Option Value) (l4 : Option Value) (l5 : Option Value) (l6 : Option Value) (l7 : Option Value) (l8 : Option Value) (l9 : Option Value) (st : List Value) (σ : sS), Rx E d 289 335 [some (.null), l1, l2, l3, l4, l5, l6, l7, l8, l9] st σ = Rx E d 289 336 [some (.null), l1, l2, l3, l4, l5, l6, l7, l8, l9] (.null :: st) σ) ∧
  (∀ (E : sV) (d : Nat) (l0 : Option Value) (l1 : Option Value) (l2 : Option Value) (l3 : Option Value) (l4 : Option Value) (l6 : Option Value) (l7 : Option Value) (l8 : Option Value) (l9 : Option Value) (x : Int32) (st : List Value) (σ : sS), Rx E d 289 336 [l0, l1, l2, l3, l4, some (.int x), l6, l7, l8, l9] st σ = Rx E d 289 338 [l0, l1, l2, l3, l4, some (.int x), l6, l7, l8, l9] (.int x :: st) σ) ∧
  (∀ (E : sV) (d : Nat) (l0 l1 l2 l3 l4 l5 l6 l7 l8 l9 : Option Value) (st : List Value) (σ : sS), Rx E d 289 338 [l0, l1, l2, l3, l4, l5, l6, l7, l8, l9] st σ = Rx E d 289 339 [l0, l1, l2, l3, l4, l5, l6, l7, l8, l9] (.int (5) :: st) σ) ∧
  (∀ (E : sV) (d : Nat) (l0 l1 l2 l3 l4 l5 l6 l7 l8 l9 : Option Value) (x y : Int32) (st : List Value) (σ : sS), Rx E d 289 339 [l0, l1, l2, l3, l4, l5, l6, l7, l8, l9] (.int y :: .int x :: st) σ = Rx E d 289 340 [l0, l1, l2, l3, l4, l5, l6, l7, l8, l9] (.int (x + y) :: st) σ) ∧
  (∀ (E : sV) (d : Nat) (l0 l1 l2 l3 l4 l5 l6 l7 l8 l9 : Option Value) (i : Int32) (a : Nat) (st : List Value) (σ : sS), Rx E d 289 340 [l0, l1, l2, l3, l4, l5, l6, l7, l8, l9] (.int i :: .ref a :: st) σ = (aldI .int σ.1 a i).bind (fun v => Rx E d 289 341 [l0, l1, l2, l3, l4, l5, l6, l7, l8, l9] (v :: st) σ)) ∧
  (∀ (E : sV) (d : Nat) (l1 : Option Value) (l2 : Option Value) (l3 : Option Value) (l4 : Option Value) (l5 : Option Value) (l6 : Option Value) (l7 : Option Value) (l8 : Option Value) (l9 : Option Value) (x : Nat) (st : List Value) (σ : sS), Rx E d 289 341 [some (.ref x), l1, l2, l3, l4, l5, l6, l7, l8, l9] st σ = Rx E d 289 342 [some (.ref x), l1, l2, l3, l4, l5, l6, l7, l8, l9] (.ref x :: st) σ) ∧
  (∀ (E : sV) (d : Nat) (l1 : Option Value) (l2 : Option Value) (l3 : Option Value) (l4 : Option Value) (l5 : Option Value) (l6 : Option Value) (l7 : Option Value) (l8 : Option Value) (l9 : Option Value) (st : List Value) (σ : sS), Rx E d 289 341 [some (.null), l1, l2, l3, l4, l5, l6, l7, l8, l9] st σ = Rx E d 289 342 [some (.null), l1, l2, l3, l4, l5, l6, l7, l8, l9] (.null :: st) σ) ∧
  (∀ (E : sV) (d : Nat) (l0 : Option Value) (l1 : Option Value) (l2 : Option Value) (l3 : Option Value) (l4 : Option Value) (l6 : Option Value) (l7 : Option Value) (l8 : Option Value) (l9 : Option Value) (x : Int32) (st : List Value) (σ : sS), Rx E d 289 342 [l0, l1, l2, l3, l4, some (.int x), l6, l7, l8, l9] st σ = Rx E d 289 344 [l0, l1, l2, l3, l4, some (.int x), l6, l7, l8, l9] (.int x :: st) σ) ∧
  (∀ (E : sV) (d : Nat) (l0 l1 l2 l3 l4 l5 l6 l7 l8 l9 : Option Value) (st : List Value) (σ : sS), Rx E d 289 344 [l0, l1, l2, l3, l4, l5, l6, l7, l8, l9] st σ = Rx E d 289 346 [l0, l1, l2, l3, l4, l5, l6, l7, l8, l9] (.int (6) :: st) σ) ∧
  (∀ (E : sV) (d : Nat) (l0 l1 l2 l3 l4 l5 l6 l7 l8 l9 : Option Value) (x y : Int32) (st : List Value) (σ : sS), Rx E d 289 346 [l0, l1, l2, l3, l4, l5, l6, l7, l8, l9] (.int y :: .int x :: st) σ = Rx E d 289 347 [l0, l1, l2, l3, l4, l5, l6, l7, l8, l9] (.int (x + y) :: st) σ) ∧
  (∀ (E : sV) (d : Nat) (l0 l1 l2 l3 l4 l5 l6 l7 l8 l9 : Option Value) (i : Int32) (a : Nat) (st : List Value) (σ : sS), Rx E d 289 347 [l0, l1, l2, l3, l4, l5, l6, l7, l8, l9] (.int i :: .ref a :: st) σ = (aldI .int σ.1 a i).bind (fun v => Rx E d 289 348 [l0, l1, l2, l3, l4, l5, l6, l7, l8, l9] (v :: st) σ)) ∧
  (∀ (E : sV) (d : Nat) (l0 l1 l2 l3 l4 l5 l6 l7 l8 l9 : Option Value) (v1 v2 v3 v4 v5 v6 : Value) (b : Nat) (st : List Value) (σ : sS), Rx E d 289 348 [l0, l1, l2, l3, l4, l5, l6, l7, l8, l9] (v6 :: v5 :: v4 :: v3 :: v2 :: v1 :: .ref b :: st) σ = if cats st ≤ 8 ∧ isOb σ.1 b 8 = true then callK (Mt E d 128 [.ref b, v1, v2, v3, v4, v5, v6] σ) (fun v σ => Rx E d 289 351 [l0, l1, l2, l3, l4, l5, l6, l7, l8, l9] (v.toList ++ st) σ) else none) ∧
  (∀ (E : sV) (d : Nat) (l0 l1 l2 l3 l4 l5 l6 l7 l8 l9 : Option Value) (x : Int32) (st : List Value) (σ : sS), Rx E d 289 351 [l0, l1, l2, l3, l4, l5, l6, l7, l8, l9] (.int x :: st) σ = Rx E d 289 353 [l0, l1, l2, l3, l4, l5, ldrop l6, some (.int x), l8, l9] st σ) ∧
  (∀ (E : sV) (d : Nat) (l0 : Option Value) (l1 : Option Value) (l3 : Option Value) (l4 : Option Value) (l5 : Option Value) (l6 : Option Value) (l7 : Option Value) (l8 : Option Value) (l9 : Option Value) (x : Nat) (st : List Value) (σ : sS), Rx E d 289 353 [l0, l1, some (.ref x), l3, l4, l5, l6, l7, l8, l9] st σ = Rx E d 289 354 [l0, l1, some (.ref x), l3, l4, l5, l6, l7, l8, l9] (.ref x :: st) σ) ∧
  (∀ (E : sV) (d : Nat) (l0 : Option Value) (l1 : Option Value) (l3 : Option Value) (l4 : Option Value) (l5 : Option Value) (l6 : Option Value) (l7 : Option Value) (l8 : Option Value) (l9 : Option Value) (st : List Value) (σ : sS), Rx E d 289 353 [l0, l1, some (.null), l3, l4, l5, l6, l7, l8, l9] st σ = Rx E d 289 354 [l0, l1, some (.null), l3, l4, l5, l6, l7, l8, l9] (.null :: st) σ) ∧
  (∀ (E : sV) (d : Nat) (l0 l1 l2 l3 l4 l5 l6 l7 l8 l9 : Option Value) (b : Nat) (st : List Value) (σ : sS), Rx E d 289 354 [l0, l1, l2, l3, l4, l5, l6, l7, l8, l9] (.ref b :: st) σ = if cats st ≤ 8 ∧ isOb σ.1 b 8 = true then callK (Mt E d 127 [.ref b] σ) (fun v σ => Rx E d 289 357 [l0, l1, l2, l3, l4, l5, l6, l7, l8, l9] (v.toList ++ st) σ) else none) ∧
  (∀ (E : sV) (d : Nat) (l0 : Option Value) (l1 : Option Value) (l2 : Option Value) (l3 : Option Value) (l4 : Option Value) (l5 : Option Value) (l7 : Option Value) (l8 : Option Value) (l9 : Option Value) (x : Int32) (st : List Value) (σ : sS), Rx E d 289 357 [l0, l1, l2, l3, l4, l5, some (.int x), l7, l8, l9] st σ = Rx E d 289 359 [l0, l1, l2, l3, l4, l5, some (.int x), l7, l8, l9] (.int x :: st) σ) ∧
  (∀ (E : sV) (d : Nat) (l0 l1 l2 l3 l4 l5 l6 l7 l8 l9 : Option Value) (x y : Int32) (st : List Value) (σ : sS), Rx E d 289 359 [l0, l1, l2, l3, l4, l5, l6, l7, l8, l9] (.int y :: .int x :: st) σ = if x = y then Rx E d 289 364 [l0, l1, l2, l3, l4, l5, l6, l7, l8, l9] st σ else Rx E d 289 362 [l0, l1, l2, l3, l4, l5, l6, l7, l8, l9] st σ) ∧
  (∀ (E : sV) (d : Nat) (l0 l1 l2 l3 l4 l5 l6 l7 l8 l9 : Option Value) (st : List Value) (σ : sS), Rx E d 289 362 [l0, l1, l2, l3, l4, l5, l6, l7, l8, l9] st σ = Rx E d 289 363 [l0, l1, l2, l3, l4, l5, l6, l7, l8, l9] (.int (0) :: st) σ) ∧
  (∀ (E : sV) (d : Nat) (l0 l1 l2 l3 l4 l5 l6 l7 l8 l9 : Option Value) (σ : sS), Rx E d 289 363 [l0, l1, l2, l3, l4, l5, l6, l7, l8, l9] [.int 0] σ = some (.inl (some (.int 0)), σ)) ∧
  (∀ (E : sV) (d : Nat) (l0 l1 l2 l3 l4 l5 l6 l7 l8 l9 : Option Value) (σ : sS), Rx E d 289 363 [l0, l1, l2, l3, l4, l5, l6, l7, l8, l9] [.int 1] σ = some (.inl (some (.int 1)), σ)) ∧
  (∀ (E : sV) (d : Nat) (l0 l1 l2 l3 l4 l5 l6 l7 l8 l9 : Option Value) (v : Int32) (σ : sS), Rx E d 289 363 [l0, l1, l2, l3, l4, l5, l6, l7, l8, l9] [.int v] σ = if narrow .boolean (.int v) = .int v then some (.inl (some (.int v)), σ) else none) ∧
  (∀ (E : sV) (d : Nat) (l0 : Option Value) (l1 : Option Value) (l2 : Option Value) (l3 : Option Value) (l4 : Option Value) (l5 : Option Value) (l7 : Option Value) (l8 : Option Value) (l9 : Option Value) (x : Int32) (st : List Value) (σ : sS), Rx E d 289 364 [l0, l1, l2, l3, l4, l5, some (.int x), l7, l8, l9] st σ = Rx E d 289 366 [l0, l1, l2, l3, l4, l5, some (.int x), l7, l8, l9] (.int x :: st) σ) := ⟨fun _ _ _ _ _ _ _ _ _ _ _ _ _ _ => Rx_of gMT_289 d289_329 rfl,
  fun _ _ _ _ _ _ _ _ _ _ _ _ _ => Rx_of gMT_289 d289_329 rfl,
  fun _ _ _ _ _ _ _ _ _ _ _ _ _ _ => Rx_of gMT_289 d289_330 rfl,
  fun _ _ _ _ _ _ _ _ _ _ _ _ _ _ => Rx_of gMT_289 d289_332 rfl,
  fun _ _ _ _ _ _ _ _ _ _ _ _ _ _ _ _ => Rx_of gMT_289 d289_333 rfl,
  fun _ _ _ _ _ _ _ _ _ _ _ _ _ _ _ _ => Rx_ald gMT_289 d289_334 rfl rfl,
  fun _ _ _ _ _ _ _ _ _ _ _ _ _ _ => Rx_of gMT_289 d289_335 rfl,
  fun _ _ _ _ _ _ _ _ _ _ _ _ _ => Rx_of gMT_289 d289_335 rfl,
  fun _ _ _ _ _ _ _ _ _ _ _ _ _ _ => Rx_of gMT_289 d289_336 rfl,
  fun _ _ _ _ _ _ _ _ _ _ _ _ _ _ => Rx_of gMT_289 d289_338 rfl,
  fun _ _ _ _ _ _ _ _ _ _ _ _ _ _ _ _ => Rx_of gMT_289 d289_339 rfl,
  fun _ _ _ _ _ _ _ _ _ _ _ _ _ _ _ _ => Rx_ald gMT_289 d289_340 rfl rfl,
  fun _ _ _ _ _ _ _ _ _ _ _ _ _ _ => Rx_of gMT_289 d289_341 rfl,
  fun _ _ _ _ _ _ _ _ _ _ _ _ _ => Rx_of gMT_289 d289_341 rfl,
  fun _ _ _ _ _ _ _ _ _ _ _ _ _ _ => Rx_of gMT_289 d289_342 rfl,
  fun _ _ _ _ _ _ _ _ _ _ _ _ _ _ => Rx_of gMT_289 d289_344 rfl,
  fun _ _ _ _ _ _ _ _ _ _ _ _ _ _ _ _ => Rx_of gMT_289 d289_346 rfl,
  fun _ _ _ _ _ _ _ _ _ _ _ _ _ _ _ _ => Rx_ald gMT_289 d289_347 rfl rfl,
  fun _ _ _ _ _ _ _ _ _ _ _ _ _ _ _ _ _ _ _ _ _ => Rx_callV gMT_289 d289_348 rfl rfl rfl rfl rfl,
  fun _ _ _ _ _ _ _ _ _ _ _ _ _ _ _ => Rx_of gMT_289 d289_351 rfl,
  fun _ _ _ _ _ _ _ _ _ _ _ _ _ _ => Rx_of gMT_289 d289_353 rfl,
  fun _ _ _ _ _ _ _ _ _ _ _ _ _ => Rx_of gMT_289 d289_353 rfl,
  fun _ _ _ _ _ _ _ _ _ _ _ _ _ _ _ => Rx_callV gMT_289 d289_354 rfl rfl rfl rfl rfl,
  fun _ _ _ _ _ _ _ _ _ _ _ _ _ _ => Rx_of gMT_289 d289_357 rfl,
  fun _ _ _ _ _ _ _ _ _ _ _ _ _ _ _ _ => Rx_icmp gMT_289 d289_359 rfl rfl (by decide),
  fun _ _ _ _ _ _ _ _ _ _ _ _ _ _ => Rx_of gMT_289 d289_362 rfl,
  fun _ _ _ _ _ _ _ _ _ _ _ _ _ => (Rx_iret gMT_289 d289_363 rfl rfl).trans (if_pos rfl),
  fun _ _ _ _ _ _ _ _ _ _ _ _ _ => (Rx_iret gMT_289 d289_363 rfl rfl).trans (if_pos rfl),
  fun _ _ _ _ _ _ _ _ _ _ _ _ _ _ => Rx_iret gMT_289 d289_363 rfl rfl,
  fun _ _ _ _ _ _ _ _ _ _ _ _ _ _ => Rx_of gMT_289 d289_364 rfl⟩
theorem QLaw_law_6 : (∀ (E : sV) (d : Nat) (l0 l1 l2 l3 l4 l5 l6 l7 l8 l9 : Option Value) (x : Int32) (st : List Value) (σ : sS), Rx E d 289 366 [l0, l1, l2, l3, l4, l5, l6, l7, l8, l9] (.int x :: st) σ = if ¬ x = 0 then Rx E d 289 381 [l0, l1, l2, l3, l4, l5, l6, l7, l8, l9] st σ else Rx E d 289 369 [l0, l1, l2, l3, l4, l5, l6, l7, l8, l9] st σ) ∧
  (∀ (E : sV) (d : Nat) (l0 : Option Value) (l1 : Option Value) (l2 : Option Value) (l4 : Option Value) (l5 : Option Value) (l6 : Option Value) (l7 : Option Value) (l8 : Option Value) (l9 : Option Value) (x : Nat) (st : List Value) (σ : sS), Rx E d 289 369 [l0, l1, l2, some (.ref x), l4, l5, l6, l7, l8, l9] st σ = Rx E d 289 370 [l0, l1, l2, some (.ref x), l4, l5, l6, l7, l8, l9] (.ref x :: st) σ) ∧
  (∀ (E : sV) (d : Nat) (l0 : Option Value) (l1 : Option Value) (l2 : Option Value) (l4 : Option Value) (l5 : Option Value) (l6 : Option Value) (l7 : Option Value) (l8 : Option Value) (l9 : Option Value) (st : List Value) (σ : sS), Rx E d 289 369 [l0, l1, l2, some (.null), l4, l5, l6, l7, l8, l9] st σ = Rx E d 289 370 [l0, l1, l2, some (.null), l4, l5, l6, l7, l8, l9] (.null :: st) σ) ∧
  (∀ (E : sV) (d : Nat) (l0 l1 l2 l3 l4 l5 l6 l7 l8 l9 : Option Value) (st : List Value) (σ : sS), Rx E d 289 370 [l0, l1, l2, l3, l4, l5, l6, l7, l8, l9] st σ = Rx E d 289 371 [l0, l1, l2, l3, l4, l5, l6, l7, l8, l9] (.int (0) :: st) σ) ∧
  (∀ (E : sV) (d : Nat) (l0 l1 l2 l3 l4 l5 l6 l7 l8 l9 : Option Value) (i : Int32) (a : Nat) (st : List Value) (σ : sS), Rx E d 289 371 [l0, l1, l2, l3, l4, l5, l6, l7, l8, l9] (.int i :: .ref a :: st) σ = (aldL σ.1 a i).bind (fun v => Rx E d 289 372 [l0, l1, l2, l3, l4, l5, l6, l7, l8, l9] (v :: st) σ)) ∧
  (∀ (E : sV) (d : Nat) (l0 : Option Value) (l1 : Option Value) (l2 : Option Value) (l3 : Option Value) (l4 : Option Value) (l5 : Option Value) (l6 : Option Value) (l8 : Option Value) (l9 : Option Value) (x : Int32) (st : List Value) (σ : sS), Rx E d 289 372 [l0, l1, l2, l3, l4, l5, l6, some (.int x), l8, l9] st σ = Rx E d 289 374 [l0, l1, l2, l3, l4, l5, l6, some (.int x), l8, l9] (.int x :: st) σ) ∧
  (∀ (E : sV) (d : Nat) (l0 l1 l2 l3 l4 l5 l6 l7 l8 l9 : Option Value) (x : Int32) (st : List Value) (σ : sS), Rx E d 289 374 [l0, l1, l2, l3, l4, l5, l6, l7, l8, l9] (.int x :: st) σ = Rx E d 289 375 [l0, l1, l2, l3, l4, l5, l6, l7, l8, l9] (.long x.toInt64 :: st) σ) ∧
  (∀ (E : sV) (d : Nat) (l0 l1 l2 l3 l4 l5 l6 l7 l8 l9 : Option Value) (x y : Int64) (st : List Value) (σ : sS), Rx E d 289 375 [l0, l1, l2, l3, l4, l5, l6, l7, l8, l9] (.long y :: .long x :: st) σ = Rx E d 289 376 [l0, l1, l2, l3, l4, l5, l6, l7, l8, l9] (.int (lg_cmp x y) :: st) σ) ∧
  (∀ (E : sV) (d : Nat) (l0 l1 l2 l3 l4 l5 l6 l7 l8 l9 : Option Value) (x : Int32) (st : List Value) (σ : sS), Rx E d 289 376 [l0, l1, l2, l3, l4, l5, l6, l7, l8, l9] (.int x :: st) σ = if x = 0 then Rx E d 289 381 [l0, l1, l2, l3, l4, l5, l6, l7, l8, l9] st σ else Rx E d 289 379 [l0, l1, l2, l3, l4, l5, l6, l7, l8, l9] st σ) ∧
  (∀ (E : sV) (d : Nat) (l0 l1 l2 l3 l4 l5 l6 l7 l8 l9 : Option Value) (st : List Value) (σ : sS), Rx E d 289 379 [l0, l1, l2, l3, l4, l5, l6, l7, l8, l9] st σ = Rx E d 289 380 [l0, l1, l2, l3, l4, l5, l6, l7, l8, l9] (.int (0) :: st) σ) ∧
  (∀ (E : sV) (d : Nat) (l0 l1 l2 l3 l4 l5 l6 l7 l8 l9 : Option Value) (σ : sS), Rx E d 289 380 [l0, l1, l2, l3, l4, l5, l6, l7, l8, l9] [.int 0] σ = some (.inl (some (.int 0)), σ)) ∧
  (∀ (E : sV) (d : Nat) (l0 l1 l2 l3 l4 l5 l6 l7 l8 l9 : Option Value) (σ : sS), Rx E d 289 380 [l0, l1, l2, l3, l4, l5, l6, l7, l8, l9] [.int 1] σ = some (.inl (some (.int 1)), σ)) ∧
  (∀ (E : sV) (d : Nat) (l0 l1 l2 l3 l4 l5 l6 l7 l8 l9 : Option Value) (v : Int32) (σ : sS), Rx E d 289 380 [l0, l1, l2, l3, l4, l5, l6, l7, l8, l9] [.int v] σ = if narrow .boolean (.int v) = .int v then some (.inl (some (.int v)), σ) else none) ∧
  (∀ (E : sV) (d : Nat) (l0 l1 l2 l3 l4 l5 l6 l7 l8 l9 : Option Value) (st : List Value) (σ : sS), Rx E d 289 381 [l0, l1, l2, l3, l4, l5, l6, l7, l8, l9] st σ = Rx E d 289 3001 [l0, l1, l2, l3, l4, l5, l6, l7, l8, l9] st σ) ∧
  (∀ (E : sV) (d : Nat) (l0 : Option Value) (l2 : Option Value) (l3 : Option Value) (l4 : Option Value) (l5 : Option Value) (l6 : Option Value) (l7 : Option Value) (l8 : Option Value) (l9 : Option Value) (x : Nat) (st : List Value) (σ : sS), Rx E d 289 384 [l0, some (.ref x), l2, l3, l4, l5, l6, l7, l8, l9] st σ = Rx E d 289 385 [l0, some (.ref x), l2, l3, l4, l5, l6, l7, l8, l9] (.ref x :: st) σ) ∧
  (∀ (E : sV) (d : Nat) (l0 : Option Value) (l2 : Option Value) (l3 : Option Value) (l4 : Option Value) (l5 : Option Value) (l6 : Option Value) (l7 : Option Value) (l8 : Option Value) (l9 : Option Value) (st : List Value) (σ : sS), Rx E d 289 384 [l0, some (.null), l2, l3, l4, l5, l6, l7, l8, l9] st σ = Rx E d 289 385 [l0, some (.null), l2, l3, l4, l5, l6, l7, l8, l9] (.null :: st) σ) ∧
  (∀ (E : sV) (d : Nat) (l1 : Option Value) (l2 : Option Value) (l3 : Option Value) (l4 : Option Value) (l5 : Option Value) (l6 : Option Value) (l7 : Option Value) (l8 : Option Value) (l9 : Option Value) (x : Nat) (st : List Value) (σ : sS), Rx E d 289 385 [some (.ref x), l1, l2, l3, l4, l5, l6, l7, l8, l9] st σ = Rx E d 289 386 [some (.ref x), l1, l2, l3, l4, l5, l6, l7, l8, l9] (.ref x :: st) σ) ∧
  (∀ (E : sV) (d : Nat) (l1 : Option Value) (l2 : Option Value) (l3 : Option Value) (l4 : Option Value) (l5 : Option Value) (l6 : Option Value) (l7 : Option Value) (l8 : Option Value) (l9 : Option Value) (st : List Value) (σ : sS), Rx E d 289 385 [some (.null), l1, l2, l3, l4, l5, l6, l7, l8, l9] st σ = Rx E d 289 386 [some (.null), l1, l2, l3, l4, l5, l6, l7, l8, l9] (.null :: st) σ) ∧
  (∀ (E : sV) (d : Nat) (l0 : Option Value) (l1 : Option Value) (l2 : Option Value) (l3 : Option Value) (l4 : Option Value) (l6 : Option Value) (l7 : Option Value) (l8 : Option Value) (l9 : Option Value) (x : Int32) (st : List Value) (σ : sS), Rx E d 289 386 [l0, l1, l2, l3, l4, some (.int x), l6, l7, l8, l9] st σ = Rx E d 289 388 [l0, l1, l2, l3, l4, some (.int x), l6, l7, l8, l9] (.int x :: st) σ) ∧
  (∀ (E : sV) (d : Nat) (l0 l1 l2 l3 l4 l5 l6 l7 l8 l9 : Option Value) (st : List Value) (σ : sS), Rx E d 289 388 [l0, l1, l2, l3, l4, l5, l6, l7, l8, l9] st σ = Rx E d 289 389 [l0, l1, l2, l3, l4, l5, l6, l7, l8, l9] (.int (1) :: st) σ) ∧
  (∀ (E : sV) (d : Nat) (l0 l1 l2 l3 l4 l5 l6 l7 l8 l9 : Option Value) (x y : Int32) (st : List Value) (σ : sS), Rx E d 289 389 [l0, l1, l2, l3, l4, l5, l6, l7, l8, l9] (.int y :: .int x :: st) σ = Rx E d 289 390 [l0, l1, l2, l3, l4, l5, l6, l7, l8, l9] (.int (x + y) :: st) σ) ∧
  (∀ (E : sV) (d : Nat) (l0 l1 l2 l3 l4 l5 l6 l7 l8 l9 : Option Value) (i : Int32) (a : Nat) (st : List Value) (σ : sS), Rx E d 289 390 [l0, l1, l2, l3, l4, l5, l6, l7, l8, l9] (.int i :: .ref a :: st) σ = (aldI .int σ.1 a i).bind (fun v => Rx E d 289 391 [l0, l1, l2, l3, l4, l5, l6, l7, l8, l9] (v :: st) σ)) ∧
  (∀ (E : sV) (d : Nat) (l0 : Option Value) (l1 : Option Value) (l2 : Option Value) (l4 : Option Value) (l5 : Option Value) (l6 : Option Value) (l7 : Option Value) (l8 : Option Value) (l9 : Option Value) (x : Nat) (st : List Value) (σ : sS), Rx E d 289 391 [l0, l1, l2, some (.ref x), l4, l5, l6, l7, l8, l9] st σ = Rx E d 289 392 [l0, l1, l2, some (.ref x), l4, l5, l6, l7, l8, l9] (.ref x :: st) σ) ∧
  (∀ (E : sV) (d : Nat) (l0 : Option Value) (l1 : Option Value) (l2 : Option Value) (l4 : Option Value) (l5 : Option Value) (l6 : Option Value) (l7 : Option Value) (l8 : Option Value) (l9 : Option Value) (st : List Value) (σ : sS), Rx E d 289 391 [l0, l1, l2, some (.null), l4, l5, l6, l7, l8, l9] st σ = Rx E d 289 392 [l0, l1, l2, some (.null), l4, l5, l6, l7, l8, l9] (.null :: st) σ) ∧
  (∀ (E : sV) (d : Nat) (l0 l1 l2 l3 l4 l5 l6 l7 l8 l9 : Option Value) (v1 v2 v3 : Value) (st : List Value) (σ : sS), Rx E d 289 392 [l0, l1, l2, l3, l4, l5, l6, l7, l8, l9] (v3 :: v2 :: v1 :: st) σ = if cats st ≤ 8 then callK (Mt E d 247 [v1, v2, v3] σ) (fun v σ => Rx E d 289 395 [l0, l1, l2, l3, l4, l5, l6, l7, l8, l9] (v.toList ++ st) σ) else none) ∧
  (∀ (E : sV) (d : Nat) (l0 l1 l2 l3 l4 l5 l6 l7 l8 l9 : Option Value) (x : Int32) (st : List Value) (σ : sS), Rx E d 289 395 [l0, l1, l2, l3, l4, l5, l6, l7, l8, l9] (.int x :: st) σ = Rx E d 289 397 [l0, l1, l2, l3, l4, ldrop l5, some (.int x), l7, l8, l9] st σ) ∧
  (∀ (E : sV) (d : Nat) (l0 : Option Value) (l1 : Option Value) (l3 : Option Value) (l4 : Option Value) (l5 : Option Value) (l6 : Option Value) (l7 : Option Value) (l8 : Option Value) (l9 : Option Value) (x : Nat) (st : List Value) (σ : sS), Rx E d 289 397 [l0, l1, some (.ref x), l3, l4, l5, l6, l7, l8, l9] st σ = Rx E d 289 398 [l0, l1, some (.ref x), l3, l4, l5, l6, l7, l8, l9] (.ref x :: st) σ) ∧
  (∀ (E : sV) (d : Nat) (l0 : Option Value) (l1 : Option Value) (l3 : Option Value) (l4 : Option Value) (l5 : Option Value) (l6 : Option Value) (l7 : Option Value) (l8 : Option Value) (l9 : Option Value) (st : List Value) (σ : sS), Rx E d 289 397 [l0, l1, some (.null), l3, l4, l5, l6, l7, l8, l9] st σ = Rx E d 289 398 [l0, l1, some (.null), l3, l4, l5, l6, l7, l8, l9] (.null :: st) σ) ∧
  (∀ (E : sV) (d : Nat) (l1 : Option Value) (l2 : Option Value) (l3 : Option Value) (l4 : Option Value) (l5 : Option Value) (l6 : Option Value) (l7 : Option Value) (l8 : Option Value) (l9 : Option Value) (x : Nat) (st : List Value) (σ : sS), Rx E d 289 398 [some (.ref x), l1, l2, l3, l4, l5, l6, l7, l8, l9] st σ = Rx E d 289 399 [some (.ref x), l1, l2, l3, l4, l5, l6, l7, l8, l9] (.ref x :: st) σ) ∧
  (∀ (E : sV) (d : Nat) (l1 : Option Value) (l2 : Option Value) (l3 : Option Value) (l4 : Option Value) (l5 : Option Value) (l6 : Option Value) (l7 : Option Value) (l8 : Option Value) (l9 : Option Value) (st : List Value) (σ : sS), Rx E d 289 398 [some (.null), l1, l2, l3, l4, l5, l6, l7, l8, l9] st σ = Rx E d 289 399 [some (.null), l1, l2, l3, l4, l5, l6, l7, l8, l9] (.null :: st) σ) := ⟨fun _ _ _ _ _ _ _ _ _ _ _ _ _ _ _ => Rx_if gMT_289 d289_366 rfl rfl (by decide),
  fun _ _ _ _ _ _ _ _ _ _ _ _ _ _ => Rx_of gMT_289 d289_369 rfl,
  fun _ _ _ _ _ _ _ _ _ _ _ _ _ => Rx_of gMT_289 d289_369 rfl,
  fun _ _ _ _ _ _ _ _ _ _ _ _ _ _ => Rx_of gMT_289 d289_370 rfl,
  fun _ _ _ _ _ _ _ _ _ _ _ _ _ _ _ _ => Rx_ald gMT_289 d289_371 rfl rfl,
  fun _ _ _ _ _ _ _ _ _ _ _ _ _ _ => Rx_of gMT_289 d289_372 rfl,
  fun _ _ _ _ _ _ _ _ _ _ _ _ _ _ _ => Rx_of gMT_289 d289_374 rfl,
  fun _ _ _ _ _ _ _ _ _ _ _ _ _ _ _ _ => Rx_of gMT_289 d289_375 rfl,
  fun _ _ _ _ _ _ _ _ _ _ _ _ _ _ _ => Rx_if gMT_289 d289_376 rfl rfl (by decide),
  fun _ _ _ _ _ _ _ _ _ _ _ _ _ _ => Rx_of gMT_289 d289_379 rfl,
  fun _ _ _ _ _ _ _ _ _ _ _ _ _ => (Rx_iret gMT_289 d289_380 rfl rfl).trans (if_pos rfl),
  fun _ _ _ _ _ _ _ _ _ _ _ _ _ => (Rx_iret gMT_289 d289_380 rfl rfl).trans (if_pos rfl),
  fun _ _ _ _ _ _ _ _ _ _ _ _ _ _ => Rx_iret gMT_289 d289_380 rfl rfl,
  fun _ _ _ _ _ _ _ _ _ _ _ _ _ _ => Rx_goto gMT_289 d289_381 rfl (by decide),
  fun _ _ _ _ _ _ _ _ _ _ _ _ _ _ => Rx_of gMT_289 d289_384 rfl,
  fun _ _ _ _ _ _ _ _ _ _ _ _ _ => Rx_of gMT_289 d289_384 rfl,
  fun _ _ _ _ _ _ _ _ _ _ _ _ _ _ => Rx_of gMT_289 d289_385 rfl,
  fun _ _ _ _ _ _ _ _ _ _ _ _ _ => Rx_of gMT_289 d289_385 rfl,
  fun _ _ _ _ _ _ _ _ _ _ _ _ _ _ => Rx_of gMT_289 d289_386 rfl,
  fun _ _ _ _ _ _ _ _ _ _ _ _ _ _ => Rx_of gMT_289 d289_388 rfl,
  fun _ _ _ _ _ _ _ _ _ _ _ _ _ _ _ _ => Rx_of gMT_289 d289_389 rfl,
  fun _ _ _ _ _ _ _ _ _ _ _ _ _ _ _ _ => Rx_ald gMT_289 d289_390 rfl rfl,
  fun _ _ _ _ _ _ _ _ _ _ _ _ _ _ => Rx_of gMT_289 d289_391 rfl,
  fun _ _ _ _ _ _ _ _ _ _ _ _ _ => Rx_of gMT_289 d289_391 rfl,
  fun _ _ _ _ _ _ _ _ _ _ _ _ _ _ _ _ _ => Rx_callS gMT_289 d289_392 rfl rfl rfl rfl rfl,
  fun _ _ _ _ _ _ _ _ _ _ _ _ _ _ _ => Rx_of gMT_289 d289_395 rfl,
  fun _ _ _ _ _ _ _ _ _ _ _ _ _ _ => Rx_of gMT_289 d289_397 rfl,
  fun _ _ _ _ _ _ _ _ _ _ _ _ _ => Rx_of gMT_289 d289_397 rfl,
  fun _ _ _ _ _ _ _ _ _ _ _ _ _ _ => Rx_of gMT_289 d289_398 rfl,
  fun _ _ _ _ _ _ _ _ _ _ _ _ _ => Rx_of gMT_289 d289_398 rfl⟩
theorem QLaw_law_7 : (∀ (E : sV) (d : Nat) (l0 : Option Value) (l1 : Option Value) (l2 : Option Value) (l3 : Option Value) (l4 : Option Value) (l6 : Option Value) (l7 : Option Value) (l8 : Option Value) (l9 : Option Value) (x : Int32) (st : List Value) (σ : sS), Rx E d 289 399 [l0, l1, l2, l3, l4, some (.int x), l6, l7, l8, l9] st σ = Rx E d 289 401 [l0, l1, l2, l3, l4, some (.int x), l6, l7, l8, l9] (.int x :: st) σ) ∧
  (∀ (E : sV) (d : Nat) (l0 l1 l2 l3 l4 l5 l6 l7 l8 l9 : Option Value) (st : List Value) (σ : sS), Rx E d 289 401 [l0, l1, l2, l3, l4, l5, l6, l7, l8, l9] st σ = Rx E d 289 402 [l0, l1, l2, l3, l4, l5, l6, l7, l8, l9] (.int (1) :: st) σ) ∧
  (∀ (E : sV) (d : Nat) (l0 l1 l2 l3 l4 l5 l6 l7 l8 l9 : Option Value) (x y : Int32) (st : List Value) (σ : sS), Rx E d 289 402 [l0, l1, l2, l3, l4, l5, l6, l7, l8, l9] (.int y :: .int x :: st) σ = Rx E d 289 403 [l0, l1, l2, l3, l4, l5, l6, l7, l8, l9] (.int (x + y) :: st) σ) ∧
  (∀ (E : sV) (d : Nat) (l0 l1 l2 l3 l4 l5 l6 l7 l8 l9 : Option Value) (i : Int32) (a : Nat) (st : List Value) (σ : sS), Rx E d 289 403 [l0, l1, l2, l3, l4, l5, l6, l7, l8, l9] (.int i :: .ref a :: st) σ = (aldI .int σ.1 a i).bind (fun v => Rx E d 289 404 [l0, l1, l2, l3, l4, l5, l6, l7, l8, l9] (v :: st) σ)) ∧
  (∀ (E : sV) (d : Nat) (l0 l1 l2 l3 l4 l5 l6 l7 l8 l9 : Option Value) (v1 : Value) (b : Nat) (st : List Value) (σ : sS), Rx E d 289 404 [l0, l1, l2, l3, l4, l5, l6, l7, l8, l9] (v1 :: .ref b :: st) σ = if cats st ≤ 8 ∧ isOb σ.1 b 8 = true then callK (Mt E d 138 [.ref b, v1] σ) (fun v σ => Rx E d 289 407 [l0, l1, l2, l3, l4, l5, l6, l7, l8, l9] (v.toList ++ st) σ) else none) ∧
  (∀ (E : sV) (d : Nat) (l0 l1 l2 l3 l4 l5 l6 l7 l8 l9 : Option Value) (x : Int32) (st : List Value) (σ : sS), Rx E d 289 407 [l0, l1, l2, l3, l4, l5, l6, l7, l8, l9] (.int x :: st) σ = Rx E d 289 409 [l0, l1, l2, l3, l4, l5, ldrop l6, some (.int x), l8, l9] st σ) ∧
  (∀ (E : sV) (d : Nat) (l0 : Option Value) (l1 : Option Value) (l3 : Option Value) (l4 : Option Value) (l5 : Option Value) (l6 : Option Value) (l7 : Option Value) (l8 : Option Value) (l9 : Option Value) (x : Nat) (st : List Value) (σ : sS), Rx E d 289 409 [l0, l1, some (.ref x), l3, l4, l5, l6, l7, l8, l9] st σ = Rx E d 289 410 [l0, l1, some (.ref x), l3, l4, l5, l6, l7, l8, l9] (.ref x :: st) σ) ∧
  (∀ (E : sV) (d : Nat) (l0 : Option Value) (l1 : Option Value) (l3 : Option Value) (l4 : Option Value) (l5 : Option Value) (l6 : Option Value) (l7 : Option Value) (l8 : Option Value) (l9 : Option Value) (st : List Value) (σ : sS), Rx E d 289 409 [l0, l1, some (.null), l3, l4, l5, l6, l7, l8, l9] st σ = Rx E d 289 410 [l0, l1, some (.null), l3, l4, l5, l6, l7, l8, l9] (.null :: st) σ) ∧
  (∀ (E : sV) (d : Nat) (l0 l1 l2 l3 l4 l5 l6 l7 l8 l9 : Option Value) (b : Nat) (st : List Value) (σ : sS), Rx E d 289 410 [l0, l1, l2, l3, l4, l5, l6, l7, l8, l9] (.ref b :: st) σ = if cats st ≤ 8 ∧ isOb σ.1 b 8 = true then callK (Mt E d 127 [.ref b] σ) (fun v σ => Rx E d 289 413 [l0, l1, l2, l3, l4, l5, l6, l7, l8, l9] (v.toList ++ st) σ) else none) ∧
  (∀ (E : sV) (d : Nat) (l0 : Option Value) (l1 : Option Value) (l2 : Option Value) (l3 : Option Value) (l4 : Option Value) (l5 : Option Value) (l7 : Option Value) (l8 : Option Value) (l9 : Option Value) (x : Int32) (st : List Value) (σ : sS), Rx E d 289 413 [l0, l1, l2, l3, l4, l5, some (.int x), l7, l8, l9] st σ = Rx E d 289 415 [l0, l1, l2, l3, l4, l5, some (.int x), l7, l8, l9] (.int x :: st) σ) ∧
  (∀ (E : sV) (d : Nat) (l0 l1 l2 l3 l4 l5 l6 l7 l8 l9 : Option Value) (x y : Int32) (st : List Value) (σ : sS), Rx E d 289 415 [l0, l1, l2, l3, l4, l5, l6, l7, l8, l9] (.int y :: .int x :: st) σ = if x = y then Rx E d 289 420 [l0, l1, l2, l3, l4, l5, l6, l7, l8, l9] st σ else Rx E d 289 418 [l0, l1, l2, l3, l4, l5, l6, l7, l8, l9] st σ) ∧
  (∀ (E : sV) (d : Nat) (l0 l1 l2 l3 l4 l5 l6 l7 l8 l9 : Option Value) (st : List Value) (σ : sS), Rx E d 289 418 [l0, l1, l2, l3, l4, l5, l6, l7, l8, l9] st σ = Rx E d 289 419 [l0, l1, l2, l3, l4, l5, l6, l7, l8, l9] (.int (0) :: st) σ) ∧
  (∀ (E : sV) (d : Nat) (l0 l1 l2 l3 l4 l5 l6 l7 l8 l9 : Option Value) (σ : sS), Rx E d 289 419 [l0, l1, l2, l3, l4, l5, l6, l7, l8, l9] [.int 0] σ = some (.inl (some (.int 0)), σ)) ∧
  (∀ (E : sV) (d : Nat) (l0 l1 l2 l3 l4 l5 l6 l7 l8 l9 : Option Value) (σ : sS), Rx E d 289 419 [l0, l1, l2, l3, l4, l5, l6, l7, l8, l9] [.int 1] σ = some (.inl (some (.int 1)), σ)) ∧
  (∀ (E : sV) (d : Nat) (l0 l1 l2 l3 l4 l5 l6 l7 l8 l9 : Option Value) (v : Int32) (σ : sS), Rx E d 289 419 [l0, l1, l2, l3, l4, l5, l6, l7, l8, l9] [.int v] σ = if narrow .boolean (.int v) = .int v then some (.inl (some (.int v)), σ) else none) ∧
  (∀ (E : sV) (d : Nat) (l0 : Option Value) (l1 : Option Value) (l2 : Option Value) (l3 : Option Value) (l4 : Option Value) (l5 : Option Value) (l7 : Option Value) (l8 : Option Value) (l9 : Option Value) (x : Int32) (st : List Value) (σ : sS), Rx E d 289 420 [l0, l1, l2, l3, l4, l5, some (.int x), l7, l8, l9] st σ = Rx E d 289 422 [l0, l1, l2, l3, l4, l5, some (.int x), l7, l8, l9] (.int x :: st) σ) ∧
  (∀ (E : sV) (d : Nat) (l0 l1 l2 l3 l4 l5 l6 l7 l8 l9 : Option Value) (x : Int32) (st : List Value) (σ : sS), Rx E d 289 422 [l0, l1, l2, l3, l4, l5, l6, l7, l8, l9] (.int x :: st) σ = if ¬ x = 0 then Rx E d 289 437 [l0, l1, l2, l3, l4, l5, l6, l7, l8, l9] st σ else Rx E d 289 425 [l0, l1, l2, l3, l4, l5, l6, l7, l8, l9] st σ) ∧
  (∀ (E : sV) (d : Nat) (l0 : Option Value) (l1 : Option Value) (l2 : Option Value) (l4 : Option Value) (l5 : Option Value) (l6 : Option Value) (l7 : Option Value) (l8 : Option Value) (l9 : Option Value) (x : Nat) (st : List Value) (σ : sS), Rx E d 289 425 [l0, l1, l2, some (.ref x), l4, l5, l6, l7, l8, l9] st σ = Rx E d 289 426 [l0, l1, l2, some (.ref x), l4, l5, l6, l7, l8, l9] (.ref x :: st) σ) ∧
  (∀ (E : sV) (d : Nat) (l0 : Option Value) (l1 : Option Value) (l2 : Option Value) (l4 : Option Value) (l5 : Option Value) (l6 : Option Value) (l7 : Option Value) (l8 : Option Value) (l9 : Option Value) (st : List Value) (σ : sS), Rx E d 289 425 [l0, l1, l2, some (.null), l4, l5, l6, l7, l8, l9] st σ = Rx E d 289 426 [l0, l1, l2, some (.null), l4, l5, l6, l7, l8, l9] (.null :: st) σ) ∧
  (∀ (E : sV) (d : Nat) (l0 l1 l2 l3 l4 l5 l6 l7 l8 l9 : Option Value) (st : List Value) (σ : sS), Rx E d 289 426 [l0, l1, l2, l3, l4, l5, l6, l7, l8, l9] st σ = Rx E d 289 427 [l0, l1, l2, l3, l4, l5, l6, l7, l8, l9] (.int (0) :: st) σ) ∧
  (∀ (E : sV) (d : Nat) (l0 l1 l2 l3 l4 l5 l6 l7 l8 l9 : Option Value) (i : Int32) (a : Nat) (st : List Value) (σ : sS), Rx E d 289 427 [l0, l1, l2, l3, l4, l5, l6, l7, l8, l9] (.int i :: .ref a :: st) σ = (aldL σ.1 a i).bind (fun v => Rx E d 289 428 [l0, l1, l2, l3, l4, l5, l6, l7, l8, l9] (v :: st) σ)) ∧
  (∀ (E : sV) (d : Nat) (l0 : Option Value) (l1 : Option Value) (l2 : Option Value) (l3 : Option Value) (l4 : Option Value) (l5 : Option Value) (l6 : Option Value) (l8 : Option Value) (l9 : Option Value) (x : Int32) (st : List Value) (σ : sS), Rx E d 289 428 [l0, l1, l2, l3, l4, l5, l6, some (.int x), l8, l9] st σ = Rx E d 289 430 [l0, l1, l2, l3, l4, l5, l6, some (.int x), l8, l9] (.int x :: st) σ) ∧
  (∀ (E : sV) (d : Nat) (l0 l1 l2 l3 l4 l5 l6 l7 l8 l9 : Option Value) (x : Int32) (st : List Value) (σ : sS), Rx E d 289 430 [l0, l1, l2, l3, l4, l5, l6, l7, l8, l9] (.int x :: st) σ = Rx E d 289 431 [l0, l1, l2, l3, l4, l5, l6, l7, l8, l9] (.long x.toInt64 :: st) σ) ∧
  (∀ (E : sV) (d : Nat) (l0 l1 l2 l3 l4 l5 l6 l7 l8 l9 : Option Value) (x y : Int64) (st : List Value) (σ : sS), Rx E d 289 431 [l0, l1, l2, l3, l4, l5, l6, l7, l8, l9] (.long y :: .long x :: st) σ = Rx E d 289 432 [l0, l1, l2, l3, l4, l5, l6, l7, l8, l9] (.int (lg_cmp x y) :: st) σ) ∧
  (∀ (E : sV) (d : Nat) (l0 l1 l2 l3 l4 l5 l6 l7 l8 l9 : Option Value) (x : Int32) (st : List Value) (σ : sS), Rx E d 289 432 [l0, l1, l2, l3, l4, l5, l6, l7, l8, l9] (.int x :: st) σ = if x = 0 then Rx E d 289 437 [l0, l1, l2, l3, l4, l5, l6, l7, l8, l9] st σ else Rx E d 289 435 [l0, l1, l2, l3, l4, l5, l6, l7, l8, l9] st σ) ∧
  (∀ (E : sV) (d : Nat) (l0 l1 l2 l3 l4 l5 l6 l7 l8 l9 : Option Value) (st : List Value) (σ : sS), Rx E d 289 435 [l0, l1, l2, l3, l4, l5, l6, l7, l8, l9] st σ = Rx E d 289 436 [l0, l1, l2, l3, l4, l5, l6, l7, l8, l9] (.int (0) :: st) σ) ∧
  (∀ (E : sV) (d : Nat) (l0 l1 l2 l3 l4 l5 l6 l7 l8 l9 : Option Value) (σ : sS), Rx E d 289 436 [l0, l1, l2, l3, l4, l5, l6, l7, l8, l9] [.int 0] σ = some (.inl (some (.int 0)), σ)) ∧
  (∀ (E : sV) (d : Nat) (l0 l1 l2 l3 l4 l5 l6 l7 l8 l9 : Option Value) (σ : sS), Rx E d 289 436 [l0, l1, l2, l3, l4, l5, l6, l7, l8, l9] [.int 1] σ = some (.inl (some (.int 1)), σ)) ∧
  (∀ (E : sV) (d : Nat) (l0 l1 l2 l3 l4 l5 l6 l7 l8 l9 : Option Value) (v : Int32) (σ : sS), Rx E d 289 436 [l0, l1, l2, l3, l4, l5, l6, l7, l8, l9] [.int v] σ = if narrow .boolean (.int v) = .int v then some (.inl (some (.int v)), σ) else none) ∧
  (∀ (E : sV) (d : Nat) (l0 l1 l2 l3 l4 l5 l6 l7 l8 l9 : Option Value) (st : List Value) (σ : sS), Rx E d 289 437 [l0, l1, l2, l3, l4, l5, l6, l7, l8, l9] st σ = Rx E d 289 3001 [l0, l1, l2, l3, l4, l5, l6, l7, l8, l9] st σ) := ⟨fun _ _ _ _ _ _ _ _ _ _ _ _ _ _ => Rx_of gMT_289 d289_399 rfl,
  fun _ _ _ _ _ _ _ _ _ _ _ _ _ _ => Rx_of gMT_289 d289_401 rfl,
  fun _ _ _ _ _ _ _ _ _ _ _ _ _ _ _ _ => Rx_of gMT_289 d289_402 rfl,
  fun _ _ _ _ _ _ _ _ _ _ _ _ _ _ _ _ => Rx_ald gMT_289 d289_403 rfl rfl,
  fun _ _ _ _ _ _ _ _ _ _ _ _ _ _ _ _ => Rx_callV gMT_289 d289_404 rfl rfl rfl rfl rfl,
  fun _ _ _ _ _ _ _ _ _ _ _ _ _ _ _ => Rx_of gMT_289 d289_407 rfl,
  fun _ _ _ _ _ _ _ _ _ _ _ _ _ _ => Rx_of gMT_289 d289_409 rfl,
  fun _ _ _ _ _ _ _ _ _ _ _ _ _ => Rx_of gMT_289 d289_409 rfl,
  fun _ _ _ _ _ _ _ _ _ _ _ _ _ _ _ => Rx_callV gMT_289 d289_410 rfl rfl rfl rfl rfl,
  fun _ _ _ _ _ _ _ _ _ _ _ _ _ _ => Rx_of gMT_289 d289_413 rfl,
  fun _ _ _ _ _ _ _ _ _ _ _ _ _ _ _ _ => Rx_icmp gMT_289 d289_415 rfl rfl (by decide),
  fun _ _ _ _ _ _ _ _ _ _ _ _ _ _ => Rx_of gMT_289 d289_418 rfl,
  fun _ _ _ _ _ _ _ _ _ _ _ _ _ => (Rx_iret gMT_289 d289_419 rfl rfl).trans (if_pos rfl),
  fun _ _ _ _ _ _ _ _ _ _ _ _ _ => (Rx_iret gMT_289 d289_419 rfl rfl).trans (if_pos rfl),
  fun _ _ _ _ _ _ _ _ _ _ _ _ _ _ => Rx_iret gMT_289 d289_419 rfl rfl,
  fun _ _ _ _ _ _ _ _ _ _ _ _ _ _ => Rx_of gMT_289 d289_420 rfl,
  fun _ _ _ _ _ _ _ _ _ _ _ _ _ _ _ => Rx_if gMT_289 d289_422 rfl rfl (by decide),
  fun _ _ _ _ _ _ _ _ _ _ _ _ _ _ => Rx_of gMT_289 d289_425 rfl,
  fun _ _ _ _ _ _ _ _ _ _ _ _ _ => Rx_of gMT_289 d289_425 rfl,
  fun _ _ _ _ _ _ _ _ _ _ _ _ _ _ => Rx_of gMT_289 d289_426 rfl,
  fun _ _ _ _ _ _ _ _ _ _ _ _ _ _ _ _ => Rx_ald gMT_289 d289_427 rfl rfl,
  fun _ _ _ _ _ _ _ _ _ _ _ _ _ _ => Rx_of gMT_289 d289_428 rfl,
  fun _ _ _ _ _ _ _ _ _ _ _ _ _ _ _ => Rx_of gMT_289 d289_430 rfl,
  fun _ _ _ _ _ _ _ _ _ _ _ _ _ _ _ _ => Rx_of gMT_289 d289_431 rfl,
  fun _ _ _ _ _ _ _ _ _ _ _ _ _ _ _ => Rx_if gMT_289 d289_432 rfl rfl (by decide),
  fun _ _ _ _ _ _ _ _ _ _ _ _ _ _ => Rx_of gMT_289 d289_435 rfl,
  fun _ _ _ _ _ _ _ _ _ _ _ _ _ => (Rx_iret gMT_289 d289_436 rfl rfl).trans (if_pos rfl),
  fun _ _ _ _ _ _ _ _ _ _ _ _ _ => (Rx_iret gMT_289 d289_436 rfl rfl).trans (if_pos rfl),
  fun _ _ _ _ _ _ _ _ _ _ _ _ _ _ => Rx_iret gMT_289 d289_436 rfl rfl,
  fun _ _ _ _ _ _ _ _ _ _ _ _ _ _ => Rx_goto gMT_289 d289_437 rfl (by decide)⟩
theorem QLaw_law_8 : (∀ (E : sV) (d : Nat) (l0 : Option Value) (l2 : Option Value) (l3 : Option Value) (l4 : Option Value) (l5 : Option Value) (l6 : Option Value) (l7 : Option Value) (l8 : Option Value) (l9 : Option Value) (x : Nat) (st : List Value) (σ : sS), Rx E d 289 440 [l0, some (.ref x), l2, l3, l4, l5, l6, l7, l8, l9] st σ = Rx E d 289 441 [l0, some (.ref x), l2, l3, l4, l5, l6, l7, l8, l9] (.ref x :: st) σ) ∧
  (∀ (E : sV) (d : Nat) (l0 : Option Value) (l2 : Option Value) (l3 : Option Value) (l4 : Option Value) (l5 : Option Value) (l6 : Option Value) (l7 : Option Value) (l8 : Option Value) (l9 : Option Value) (st : List Value) (σ : sS), Rx E d 289 440 [l0, some (.null), l2, l3, l4, l5, l6, l7, l8, l9] st σ = Rx E d 289 441 [l0, some (.null), l2, l3, l4, l5, l6, l7, l8, l9] (.null :: st) σ) ∧
  (∀ (E : sV) (d : Nat) (l1 : Option Value) (l2 : Option Value) (l3 : Option Value) (l4 : Option Value) (l5 : Option Value) (l6 : Option Value) (l7 : Option Value) (l8 : Option Value) (l9 : Option Value) (x : Nat) (st : List Value) (σ : sS), Rx E d 289 441 [some (.ref x), l1, l2, l3, l4, l5, l6, l7, l8, l9] st σ = Rx E d 289 442 [some (.ref x), l1, l2, l3, l4, l5, l6, l7, l8, l9] (.ref x :: st) σ) ∧
  (∀ (E : sV) (d : Nat) (l1 : Option Value) (l2 : Option Value) (l3 : Option Value) (l4 : Option Value) (l5 : Option Value) (l6 : Option Value) (l7 : Option Value) (l8 : Option Value) (l9 : Option Value) (st : List Value) (σ : sS), Rx E d 289 441 [some (.null), l1, l2, l3, l4, l5, l6, l7, l8, l9] st σ = Rx E d 289 442 [some (.null), l1, l2, l3, l4, l5, l6, l7, l8, l9] (.null :: st) σ) ∧
  (∀ (E : sV) (d : Nat) (l0 : Option Value) (l1 : Option Value) (l2 : Option Value) (l3 : Option Value) (l4 : Option Value) (l6 : Option Value) (l7 : Option Value) (l8 : Option Value) (l9 : Option Value) (x : Int32) (st : List Value) (σ : sS), Rx E d 289 442 [l0, l1, l2, l3, l4, some (.int x), l6, l7, l8, l9] st σ = Rx E d 289 444 [l0, l1, l2, l3, l4, some (.int x), l6, l7, l8, l9] (.int x :: st) σ) ∧
  (∀ (E : sV) (d : Nat) (l0 l1 l2 l3 l4 l5 l6 l7 l8 l9 : Option Value) (st : List Value) (σ : sS), Rx E d 289 444 [l0, l1, l2, l3, l4, l5, l6, l7, l8, l9] st σ = Rx E d 289 445 [l0, l1, l2, l3, l4, l5, l6, l7, l8, l9] (.int (1) :: st) σ) ∧
  (∀ (E : sV) (d : Nat) (l0 l1 l2 l3 l4 l5 l6 l7 l8 l9 : Option Value) (x y : Int32) (st : List Value) (σ : sS), Rx E d 289 445 [l0, l1, l2, l3, l4, l5, l6, l7, l8, l9] (.int y :: .int x :: st) σ = Rx E d 289 446 [l0, l1, l2, l3, l4, l5, l6, l7, l8, l9] (.int (x + y) :: st) σ) ∧
  (∀ (E : sV) (d : Nat) (l0 l1 l2 l3 l4 l5 l6 l7 l8 l9 : Option Value) (i : Int32) (a : Nat) (st : List Value) (σ : sS), Rx E d 289 446 [l0, l1, l2, l3, l4, l5, l6, l7, l8, l9] (.int i :: .ref a :: st) σ = (aldI .int σ.1 a i).bind (fun v => Rx E d 289 447 [l0, l1, l2, l3, l4, l5, l6, l7, l8, l9] (v :: st) σ)) ∧
  (∀ (E : sV) (d : Nat) (l1 : Option Value) (l2 : Option Value) (l3 : Option Value) (l4 : Option Value) (l5 : Option Value) (l6 : Option Value) (l7 : Option Value) (l8 : Option Value) (l9 : Option Value) (x : Nat) (st : List Value) (σ : sS), Rx E d 289 447 [some (.ref x), l1, l2, l3, l4, l5, l6, l7, l8, l9] st σ = Rx E d 289 448 [some (.ref x), l1, l2, l3, l4, l5, l6, l7, l8, l9] (.ref x :: st) σ) ∧
  (∀ (E : sV) (d : Nat) (l1 : Option Value) (l2 : Option Value) (l3 : Option Value) (l4 : Option Value) (l5 : Option Value) (l6 : Option Value) (l7 : Option Value) (l8 : Option Value) (l9 : Option Value) (st : List Value) (σ : sS), Rx E d 289 447 [some (.null), l1, l2, l3, l4, l5, l6, l7, l8, l9] st σ = Rx E d 289 448 [some (.null), l1, l2, l3, l4, l5, l6, l7, l8, l9] (.null :: st) σ) ∧
  (∀ (E : sV) (d : Nat) (l0 : Option Value) (l1 : Option Value) (l2 : Option Value) (l3 : Option Value) (l4 : Option Value) (l6 : Option Value) (l7 : Option Value) (l8 : Option Value) (l9 : Option Value) (x : Int32) (st : List Value) (σ : sS), Rx E d 289 448 [l0, l1, l2, l3, l4, some (.int x), l6, l7, l8, l9] st σ = Rx E d 289 450 [l0, l1, l2, l3, l4, some (.int x), l6, l7, l8, l9] (.int x :: st) σ) ∧
  (∀ (E : sV) (d : Nat) (l0 l1 l2 l3 l4 l5 l6 l7 l8 l9 : Option Value) (st : List Value) (σ : sS), Rx E d 289 450 [l0, l1, l2, l3, l4, l5, l6, l7, l8, l9] st σ = Rx E d 289 451 [l0, l1, l2, l3, l4, l5, l6, l7, l8, l9] (.int (2) :: st) σ) ∧
  (∀ (E : sV) (d : Nat) (l0 l1 l2 l3 l4 l5 l6 l7 l8 l9 : Option Value) (x y : Int32) (st : List Value) (σ : sS), Rx E d 289 451 [l0, l1, l2, l3, l4, l5, l6, l7, l8, l9] (.int y :: .int x :: st) σ = Rx E d 289 452 [l0, l1, l2, l3, l4, l5, l6, l7, l8, l9] (.int (x + y) :: st) σ) ∧
  (∀ (E : sV) (d : Nat) (l0 l1 l2 l3 l4 l5 l6 l7 l8 l9 : Option Value) (i : Int32) (a : Nat) (st : List Value) (σ : sS), Rx E d 289 452 [l0, l1, l2, l3, l4, l5, l6, l7, l8, l9] (.int i :: .ref a :: st) σ = (aldI .int σ.1 a i).bind (fun v => Rx E d 289 453 [l0, l1, l2, l3, l4, l5, l6, l7, l8, l9] (v :: st) σ)) ∧
  (∀ (E : sV) (d : Nat) (l0 : Option Value) (l1 : Option Value) (l2 : Option Value) (l4 : Option Value) (l5 : Option Value) (l6 : Option Value) (l7 : Option Value) (l8 : Option Value) (l9 : Option Value) (x : Nat) (st : List Value) (σ : sS), Rx E d 289 453 [l0, l1, l2, some (.ref x), l4, l5, l6, l7, l8, l9] st σ = Rx E d 289 454 [l0, l1, l2, some (.ref x), l4, l5, l6, l7, l8, l9] (.ref x :: st) σ) ∧
  (∀ (E : sV) (d : Nat) (l0 : Option Value) (l1 : Option Value) (l2 : Option Value) (l4 : Option Value) (l5 : Option Value) (l6 : Option Value) (l7 : Option Value) (l8 : Option Value) (l9 : Option Value) (st : List Value) (σ : sS), Rx E d 289 453 [l0, l1, l2, some (.null), l4, l5, l6, l7, l8, l9] st σ = Rx E d 289 454 [l0, l1, l2, some (.null), l4, l5, l6, l7, l8, l9] (.null :: st) σ) ∧
  (∀ (E : sV) (d : Nat) (l0 l1 l2 l3 l4 l5 l6 l7 l8 l9 : Option Value) (v1 v2 v3 v4 : Value) (st : List Value) (σ : sS), Rx E d 289 454 [l0, l1, l2, l3, l4, l5, l6, l7, l8, l9] (v4 :: v3 :: v2 :: v1 :: st) σ = if cats st ≤ 8 then callK (Mt E d 248 [v1, v2, v3, v4] σ) (fun v σ => Rx E d 289 457 [l0, l1, l2, l3, l4, l5, l6, l7, l8, l9] (v.toList ++ st) σ) else none) ∧
  (∀ (E : sV) (d : Nat) (l0 l1 l2 l3 l4 l5 l6 l7 l8 l9 : Option Value) (x : Int32) (st : List Value) (σ : sS), Rx E d 289 457 [l0, l1, l2, l3, l4, l5, l6, l7, l8, l9] (.int x :: st) σ = Rx E d 289 459 [l0, l1, l2, l3, l4, ldrop l5, some (.int x), l7, l8, l9] st σ) ∧
  (∀ (E : sV) (d : Nat) (l0 : Option Value) (l1 : Option Value) (l3 : Option Value) (l4 : Option Value) (l5 : Option Value) (l6 : Option Value) (l7 : Option Value) (l8 : Option Value) (l9 : Option Value) (x : Nat) (st : List Value) (σ : sS), Rx E d 289 459 [l0, l1, some (.ref x), l3, l4, l5, l6, l7, l8, l9] st σ = Rx E d 289 460 [l0, l1, some (.ref x), l3, l4, l5, l6, l7, l8, l9] (.ref x :: st) σ) ∧
  (∀ (E : sV) (d : Nat) (l0 : Option Value) (l1 : Option Value) (l3 : Option Value) (l4 : Option Value) (l5 : Option Value) (l6 : Option Value) (l7 : Option Value) (l8 : Option Value) (l9 : Option Value) (st : List Value) (σ : sS), Rx E d 289 459 [l0, l1, some (.null), l3, l4, l5, l6, l7, l8, l9] st σ = Rx E d 289 460 [l0, l1, some (.null), l3, l4, l5, l6, l7, l8, l9] (.null :: st) σ) ∧
  (∀ (E : sV) (d : Nat) (l1 : Option Value) (l2 : Option Value) (l3 : Option Value) (l4 : Option Value) (l5 : Option Value) (l6 : Option Value) (l7 : Option Value) (l8 : Option Value) (l9 : Option Value) (x : Nat) (st : List Value) (σ : sS), Rx E d 289 460 [some (.ref x), l1, l2, l3, l4, l5, l6, l7, l8, l9] st σ = Rx E d 289 461 [some (.ref x), l1, l2, l3, l4, l5, l6, l7, l8, l9] (.ref x :: st) σ) ∧
  (∀ (E : sV) (d : Nat) (l1 : Option Value) (l2 : Option Value) (l3 : Option Value) (l4 : Option Value) (l5 : Option Value) (l6 : Option Value) (l7 : Option Value) (l8 : Option Value) (l9 : Option Value) (st : List Value) (σ : sS), Rx E d 289 460 [some (.null), l1, l2, l3, l4, l5, l6, l7, l8, l9] st σ = Rx E d 289 461 [some (.null), l1, l2, l3, l4, l5, l6, l7, l8, l9] (.null :: st) σ) ∧
  (∀ (E : sV) (d : Nat) (l0 : Option Value) (l1 : Option Value) (l2 : Option Value) (l3 : Option Value) (l4 : Option Value) (l6 : Option Value) (l7 : Option Value) (l8 : Option Value) (l9 : Option Value) (x : Int32) (st : List Value) (σ : sS), Rx E d 289 461 [l0, l1, l2, l3, l4, some (.int x), l6, l7, l8, l9] st σ = Rx E d 289 463 [l0, l1, l2, l3, l4, some (.int x), l6, l7, l8, l9] (.int x :: st) σ) ∧
  (∀ (E : sV) (d : Nat) (l0 l1 l2 l3 l4 l5 l6 l7 l8 l9 : Option Value) (st : List Value) (σ : sS), Rx E d 289 463 [l0, l1, l2, l3, l4, l5, l6, l7, l8, l9] st σ = Rx E d 289 464 [l0, l1, l2, l3, l4, l5, l6, l7, l8, l9] (.int (1) :: st) σ) ∧
  (∀ (E : sV) (d : Nat) (l0 l1 l2 l3 l4 l5 l6 l7 l8 l9 : Option Value) (x y : Int32) (st : List Value) (σ : sS), Rx E d 289 464 [l0, l1, l2, l3, l4, l5, l6, l7, l8, l9] (.int y :: .int x :: st) σ = Rx E d 289 465 [l0, l1, l2, l3, l4, l5, l6, l7, l8, l9] (.int (x + y) :: st) σ) ∧
  (∀ (E : sV) (d : Nat) (l0 l1 l2 l3 l4 l5 l6 l7 l8 l9 : Option Value) (i : Int32) (a : Nat) (st : List Value) (σ : sS), Rx E d 289 465 [l0, l1, l2, l3, l4, l5, l6, l7, l8, l9] (.int i :: .ref a :: st) σ = (aldI .int σ.1 a i).bind (fun v => Rx E d 289 466 [l0, l1, l2, l3, l4, l5, l6, l7, l8, l9] (v :: st) σ)) ∧
  (∀ (E : sV) (d : Nat) (l1 : Option Value) (l2 : Option Value) (l3 : Option Value) (l4 : Option Value) (l5 : Option Value) (l6 : Option Value) (l7 : Option Value) (l8 : Option Value) (l9 : Option Value) (x : Nat) (st : List Value) (σ : sS), Rx E d 289 466 [some (.ref x), l1, l2, l3, l4, l5, l6, l7, l8, l9] st σ = Rx E d 289 467 [some (.ref x), l1, l2, l3, l4, l5, l6, l7, l8, l9] (.ref x :: st) σ) ∧
  (∀ (E : sV) (d : Nat) (l1 : Option Value) (l2 : Option Value) (l3 : Option Value) (l4 : Option Value) (l5 : Option Value) (l6 : Option Value) (l7 : Option Value) (l8 : Option Value) (l9 : Option Value) (st : List Value) (σ : sS), Rx E d 289 466 [some (.null), l1, l2, l3, l4, l5, l6, l7, l8, l9] st σ = Rx E d 289 467 [some (.null), l1, l2, l3, l4, l5, l6, l7, l8, l9] (.null :: st) σ) ∧
  (∀ (E : sV) (d : Nat) (l0 : Option Value) (l1 : Option Value) (l2 : Option Value) (l3 : Option Value) (l4 : Option Value) (l6 : Option Value) (l7 : Option Value) (l8 : Option Value) (l9 : Option Value) (x : Int32) (st : List Value) (σ : sS), Rx E d 289 467 [l0, l1, l2, l3, l4, some (.int x), l6, l7, l8, l9] st σ = Rx E d 289 469 [l0, l1, l2, l3, l4, some (.int x), l6, l7, l8, l9] (.int x :: st) σ) ∧
  (∀ (E : sV) (d : Nat) (l0 l1 l2 l3 l4 l5 l6 l7 l8 l9 : Option Value) (st : List Value) (σ : sS), Rx E d 289 469 [l0, l1, l2, l3, l4, l5, l6, l7, l8, l9] st σ = Rx E d 289 470 [l0, l1, l2, l3, l4, l5, l6, l7, l8, l9] (.int (2) :: st) σ) := ⟨fun _ _ _ _ _ _ _ _ _ _ _ _ _ _ => Rx_of gMT_289 d289_440 rfl,
  fun _ _ _ _ _ _ _ _ _ _ _ _ _ => Rx_of gMT_289 d289_440 rfl,
  fun _ _ _ _ _ _ _ _ _ _ _ _ _ _ => Rx_of gMT_289 d289_441 rfl,
  fun _ _ _ _ _ _ _ _ _ _ _ _ _ => Rx_of gMT_289 d289_441 rfl,
  fun _ _ _ _ _ _ _ _ _ _ _ _ _ _ => Rx_of gMT_289 d289_442 rfl,
  fun _ _ _ _ _ _ _ _ _ _ _ _ _ _ => Rx_of gMT_289 d289_444 rfl,
  fun _ _ _ _ _ _ _ _ _ _ _ _ _ _ _ _ => Rx_of gMT_289 d289_445 rfl,
  fun _ _ _ _ _ _ _ _ _ _ _ _ _ _ _ _ => Rx_ald gMT_289 d289_446 rfl rfl,
  fun _ _ _ _ _ _ _ _ _ _ _ _ _ _ => Rx_of gMT_289 d289_447 rfl,
  fun _ _ _ _ _ _ _ _ _ _ _ _ _ => Rx_of gMT_289 d289_447 rfl,
  fun _ _ _ _ _ _ _ _ _ _ _ _ _ _ => Rx_of gMT_289 d289_448 rfl,
  fun _ _ _ _ _ _ _ _ _ _ _ _ _ _ => Rx_of gMT_289 d289_450 rfl,
  fun _ _ _ _ _ _ _ _ _ _ _ _ _ _ _ _ => Rx_of gMT_289 d289_451 rfl,
  fun _ _ _ _ _ _ _ _ _ _ _ _ _ _ _ _ => Rx_ald gMT_289 d289_452 rfl rfl,
  fun _ _ _ _ _ _ _ _ _ _ _ _ _ _ => Rx_of gMT_289 d289_453 rfl,
  fun _ _ _ _ _ _ _ _ _ _ _ _ _ => Rx_of gMT_289 d289_453 rfl,
  fun _ _ _ _ _ _ _ _ _ _ _ _ _ _ _ _ _ _ => Rx_callS gMT_289 d289_454 rfl rfl rfl rfl rfl,
  fun _ _ _ _ _ _ _ _ _ _ _ _ _ _ _ => Rx_of gMT_289 d289_457 rfl,
  fun _ _ _ _ _ _ _ _ _ _ _ _ _ _ => Rx_of gMT_289 d289_459 rfl,
  fun _ _ _ _ _ _ _ _ _ _ _ _ _ => Rx_of gMT_289 d289_459 rfl,
  fun _ _ _ _ _ _ _ _ _ _ _ _ _ _ => Rx_of gMT_289 d289_460 rfl,
  fun _ _ _ _ _ _ _ _ _ _ _ _ _ => Rx_of gMT_289 d289_460 rfl,
  fun _ _ _ _ _ _ _ _ _ _ _ _ _ _ => Rx_of gMT_289 d289_461 rfl,
  fun _ _ _ _ _ _ _ _ _ _ _ _ _ _ => Rx_of gMT_289 d289_463 rfl,
  fun _ _ _ _ _ _ _ _ _ _ _ _ _ _ _ _ => Rx_of gMT_289 d289_464 rfl,
  fun _ _ _ _ _ _ _ _ _ _ _ _ _ _ _ _ => Rx_ald gMT_289 d289_465 rfl rfl,
  fun _ _ _ _ _ _ _ _ _ _ _ _ _ _ => Rx_of gMT_289 d289_466 rfl,
  fun _ _ _ _ _ _ _ _ _ _ _ _ _ => Rx_of gMT_289 d289_466 rfl,
  fun _ _ _ _ _ _ _ _ _ _ _ _ _ _ => Rx_of gMT_289 d289_467 rfl,
  fun _ _ _ _ _ _ _ _ _ _ _ _ _ _ => Rx_of gMT_289 d289_469 rfl⟩
theorem QLaw_law_9 : (∀ (E : sV) (d : Nat) (l0 l1 l2 l3 l4 l5 l6 l7 l8 l9 : Option Value) (x y : Int32) (st : List Value) (σ : sS), Rx E d 289 470 [l0, l1, l2, l3, l4, l5, l6, l7, l8, l9] (.int y :: .int x :: st) σ = Rx E d 289 471 [l0, l1, l2, l3, l4, l5, l6, l7, l8, l9] (.int (x + y) :: st) σ) ∧
  (∀ (E : sV) (d : Nat) (l0 l1 l2 l3 l4 l5 l6 l7 l8 l9 : Option Value) (i : Int32) (a : Nat) (st : List Value) (σ : sS), Rx E d 289 471 [l0, l1, l2, l3, l4, l5, l6, l7, l8, l9] (.int i :: .ref a :: st) σ = (aldI .int σ.1 a i).bind (fun v => Rx E d 289 472 [l0, l1, l2, l3, l4, l5, l6, l7, l8, l9] (v :: st) σ)) ∧
  (∀ (E : sV) (d : Nat) (l0 l1 l2 l3 l4 l5 l6 l7 l8 l9 : Option Value) (v1 v2 : Value) (b : Nat) (st : List Value) (σ : sS), Rx E d 289 472 [l0, l1, l2, l3, l4, l5, l6, l7, l8, l9] (v2 :: v1 :: .ref b :: st) σ = if cats st ≤ 8 ∧ isOb σ.1 b 8 = true then callK (Mt E d 142 [.ref b, v1, v2] σ) (fun v σ => Rx E d 289 475 [l0, l1, l2, l3, l4, l5, l6, l7, l8, l9] (v.toList ++ st) σ) else none) ∧
  (∀ (E : sV) (d : Nat) (l0 l1 l2 l3 l4 l5 l6 l7 l8 l9 : Option Value) (x : Int32) (st : List Value) (σ : sS), Rx E d 289 475 [l0, l1, l2, l3, l4, l5, l6, l7, l8, l9] (.int x :: st) σ = Rx E d 289 477 [l0, l1, l2, l3, l4, l5, ldrop l6, some (.int x), l8, l9] st σ) ∧
  (∀ (E : sV) (d : Nat) (l0 : Option Value) (l1 : Option Value) (l3 : Option Value) (l4 : Option Value) (l5 : Option Value) (l6 : Option Value) (l7 : Option Value) (l8 : Option Value) (l9 : Option Value) (x : Nat) (st : List Value) (σ : sS), Rx E d 289 477 [l0, l1, some (.ref x), l3, l4, l5, l6, l7, l8, l9] st σ = Rx E d 289 478 [l0, l1, some (.ref x), l3, l4, l5, l6, l7, l8, l9] (.ref x :: st) σ) ∧
  (∀ (E : sV) (d : Nat) (l0 : Option Value) (l1 : Option Value) (l3 : Option Value) (l4 : Option Value) (l5 : Option Value) (l6 : Option Value) (l7 : Option Value) (l8 : Option Value) (l9 : Option Value) (st : List Value) (σ : sS), Rx E d 289 477 [l0, l1, some (.null), l3, l4, l5, l6, l7, l8, l9] st σ = Rx E d 289 478 [l0, l1, some (.null), l3, l4, l5, l6, l7, l8, l9] (.null :: st) σ) ∧
  (∀ (E : sV) (d : Nat) (l0 l1 l2 l3 l4 l5 l6 l7 l8 l9 : Option Value) (b : Nat) (st : List Value) (σ : sS), Rx E d 289 478 [l0, l1, l2, l3, l4, l5, l6, l7, l8, l9] (.ref b :: st) σ = if cats st ≤ 8 ∧ isOb σ.1 b 8 = true then callK (Mt E d 127 [.ref b] σ) (fun v σ => Rx E d 289 481 [l0, l1, l2, l3, l4, l5, l6, l7, l8, l9] (v.toList ++ st) σ) else none) ∧
  (∀ (E : sV) (d : Nat) (l0 : Option Value) (l1 : Option Value) (l2 : Option Value) (l3 : Option Value) (l4 : Option Value) (l5 : Option Value) (l7 : Option Value) (l8 : Option Value) (l9 : Option Value) (x : Int32) (st : List Value) (σ : sS), Rx E d 289 481 [l0, l1, l2, l3, l4, l5, some (.int x), l7, l8, l9] st σ = Rx E d 289 483 [l0, l1, l2, l3, l4, l5, some (.int x), l7, l8, l9] (.int x :: st) σ) ∧
  (∀ (E : sV) (d : Nat) (l0 l1 l2 l3 l4 l5 l6 l7 l8 l9 : Option Value) (x y : Int32) (st : List Value) (σ : sS), Rx E d 289 483 [l0, l1, l2, l3, l4, l5, l6, l7, l8, l9] (.int y :: .int x :: st) σ = if x = y then Rx E d 289 488 [l0, l1, l2, l3, l4, l5, l6, l7, l8, l9] st σ else Rx E d 289 486 [l0, l1, l2, l3, l4, l5, l6, l7, l8, l9] st σ) ∧
  (∀ (E : sV) (d : Nat) (l0 l1 l2 l3 l4 l5 l6 l7 l8 l9 : Option Value) (st : List Value) (σ : sS), Rx E d 289 486 [l0, l1, l2, l3, l4, l5, l6, l7, l8, l9] st σ = Rx E d 289 487 [l0, l1, l2, l3, l4, l5, l6, l7, l8, l9] (.int (0) :: st) σ) ∧
  (∀ (E : sV) (d : Nat) (l0 l1 l2 l3 l4 l5 l6 l7 l8 l9 : Option Value) (σ : sS), Rx E d 289 487 [l0, l1, l2, l3, l4, l5, l6, l7, l8, l9] [.int 0] σ = some (.inl (some (.int 0)), σ)) ∧
  (∀ (E : sV) (d : Nat) (l0 l1 l2 l3 l4 l5 l6 l7 l8 l9 : Option Value) (σ : sS), Rx E d 289 487 [l0, l1, l2, l3, l4, l5, l6, l7, l8, l9] [.int 1] σ = some (.inl (some (.int 1)), σ)) ∧
  (∀ (E : sV) (d : Nat) (l0 l1 l2 l3 l4 l5 l6 l7 l8 l9 : Option Value) (v : Int32) (σ : sS), Rx E d 289 487 [l0, l1, l2, l3, l4, l5, l6, l7, l8, l9] [.int v] σ = if narrow .boolean (.int v) = .int v then some (.inl (some (.int v)), σ) else none) ∧
  (∀ (E : sV) (d : Nat) (l0 : Option Value) (l1 : Option Value) (l2 : Option Value) (l3 : Option Value) (l4 : Option Value) (l5 : Option Value) (l7 : Option Value) (l8 : Option Value) (l9 : Option Value) (x : Int32) (st : List Value) (σ : sS), Rx E d 289 488 [l0, l1, l2, l3, l4, l5, some (.int x), l7, l8, l9] st σ = Rx E d 289 490 [l0, l1, l2, l3, l4, l5, some (.int x), l7, l8, l9] (.int x :: st) σ) ∧
  (∀ (E : sV) (d : Nat) (l0 l1 l2 l3 l4 l5 l6 l7 l8 l9 : Option Value) (x : Int32) (st : List Value) (σ : sS), Rx E d 289 490 [l0, l1, l2, l3, l4, l5, l6, l7, l8, l9] (.int x :: st) σ = if ¬ x = 0 then Rx E d 289 505 [l0, l1, l2, l3, l4, l5, l6, l7, l8, l9] st σ else Rx E d 289 493 [l0, l1, l2, l3, l4, l5, l6, l7, l8, l9] st σ) ∧
  (∀ (E : sV) (d : Nat) (l0 : Option Value) (l1 : Option Value) (l2 : Option Value) (l4 : Option Value) (l5 : Option Value) (l6 : Option Value) (l7 : Option Value) (l8 : Option Value) (l9 : Option Value) (x : Nat) (st : List Value) (σ : sS), Rx E d 289 493 [l0, l1, l2, some (.ref x), l4, l5, l6, l7, l8, l9] st σ = Rx E d 289 494 [l0, l1, l2, some (.ref x), l4, l5, l6, l7, l8, l9] (.ref x :: st) σ) ∧
  (∀ (E : sV) (d : Nat) (l0 : Option Value) (l1 : Option Value) (l2 : Option Value) (l4 : Option Value) (l5 : Option Value) (l6 : Option Value) (l7 : Option Value) (l8 : Option Value) (l9 : Option Value) (st : List Value) (σ : sS), Rx E d 289 493 [l0, l1, l2, some (.null), l4, l5, l6, l7, l8, l9] st σ = Rx E d 289 494 [l0, l1, l2, some (.null), l4, l5, l6, l7, l8, l9] (.null :: st) σ) ∧
  (∀ (E : sV) (d : Nat) (l0 l1 l2 l3 l4 l5 l6 l7 l8 l9 : Option Value) (st : List Value) (σ : sS), Rx E d 289 494 [l0, l1, l2, l3, l4, l5, l6, l7, l8, l9] st σ = Rx E d 289 495 [l0, l1, l2, l3, l4, l5, l6, l7, l8, l9] (.int (0) :: st) σ) ∧
  (∀ (E : sV) (d : Nat) (l0 l1 l2 l3 l4 l5 l6 l7 l8 l9 : Option Value) (i : Int32) (a : Nat) (st : List Value) (σ : sS), Rx E d 289 495 [l0, l1, l2, l3, l4, l5, l6, l7, l8, l9] (.int i :: .ref a :: st) σ = (aldL σ.1 a i).bind (fun v => Rx E d 289 496 [l0, l1, l2, l3, l4, l5, l6, l7, l8, l9] (v :: st) σ)) ∧
  (∀ (E : sV) (d : Nat) (l0 : Option Value) (l1 : Option Value) (l2 : Option Value) (l3 : Option Value) (l4 : Option Value) (l5 : Option Value) (l6 : Option Value) (l8 : Option Value) (l9 : Option Value) (x : Int32) (st : List Value) (σ : sS), Rx E d 289 496 [l0, l1, l2, l3, l4, l5, l6, some (.int x), l8, l9] st σ = Rx E d 289 498 [l0, l1, l2, l3, l4, l5, l6, some (.int x), l8, l9] (.int x :: st) σ) ∧
  (∀ (E : sV) (d : Nat) (l0 l1 l2 l3 l4 l5 l6 l7 l8 l9 : Option Value) (x : Int32) (st : List Value) (σ : sS), Rx E d 289 498 [l0, l1, l2, l3, l4, l5, l6, l7, l8, l9] (.int x :: st) σ = Rx E d 289 499 [l0, l1, l2, l3, l4, l5, l6, l7, l8, l9] (.long x.toInt64 :: st) σ) ∧
  (∀ (E : sV) (d : Nat) (l0 l1 l2 l3 l4 l5 l6 l7 l8 l9 : Option Value) (x y : Int64) (st : List Value) (σ : sS), Rx E d 289 499 [l0, l1, l2, l3, l4, l5, l6, l7, l8, l9] (.long y :: .long x :: st) σ = Rx E d 289 500 [l0, l1, l2, l3, l4, l5, l6, l7, l8, l9] (.int (lg_cmp x y) :: st) σ) ∧
  (∀ (E : sV) (d : Nat) (l0 l1 l2 l3 l4 l5 l6 l7 l8 l9 : Option Value) (x : Int32) (st : List Value) (σ : sS), Rx E d 289 500 [l0, l1, l2, l3, l4, l5, l6, l7, l8, l9] (.int x :: st) σ = if x = 0 then Rx E d 289 505 [l0, l1, l2, l3, l4, l5, l6, l7, l8, l9] st σ else Rx E d 289 503 [l0, l1, l2, l3, l4, l5, l6, l7, l8, l9] st σ) ∧
  (∀ (E : sV) (d : Nat) (l0 l1 l2 l3 l4 l5 l6 l7 l8 l9 : Option Value) (st : List Value) (σ : sS), Rx E d 289 503 [l0, l1, l2, l3, l4, l5, l6, l7, l8, l9] st σ = Rx E d 289 504 [l0, l1, l2, l3, l4, l5, l6, l7, l8, l9] (.int (0) :: st) σ) ∧
  (∀ (E : sV) (d : Nat) (l0 l1 l2 l3 l4 l5 l6 l7 l8 l9 : Option Value) (σ : sS), Rx E d 289 504 [l0, l1, l2, l3, l4, l5, l6, l7, l8, l9] [.int 0] σ = some (.inl (some (.int 0)), σ)) ∧
  (∀ (E : sV) (d : Nat) (l0 l1 l2 l3 l4 l5 l6 l7 l8 l9 : Option Value) (σ : sS), Rx E d 289 504 [l0, l1, l2, l3, l4, l5, l6, l7, l8, l9] [.int 1] σ = some (.inl (some (.int 1)), σ)) ∧
  (∀ (E : sV) (d : Nat) (l0 l1 l2 l3 l4 l5 l6 l7 l8 l9 : Option Value) (v : Int32) (σ : sS), Rx E d 289 504 [l0, l1, l2, l3, l4, l5, l6, l7, l8, l9] [.int v] σ = if narrow .boolean (.int v) = .int v then some (.inl (some (.int v)), σ) else none) ∧
  (∀ (E : sV) (d : Nat) (l0 l1 l2 l3 l4 l5 l6 l7 l8 l9 : Option Value) (st : List Value) (σ : sS), Rx E d 289 505 [l0, l1, l2, l3, l4, l5, l6, l7, l8, l9] st σ = Rx E d 289 3001 [l0, l1, l2, l3, l4, l5, l6, l7, l8, l9] st σ) ∧
  (∀ (E : sV) (d : Nat) (l0 : Option Value) (l2 : Option Value) (l3 : Option Value) (l4 : Option Value) (l5 : Option Value) (l6 : Option Value) (l7 : Option Value) (l8 : Option Value) (l9 : Option Value) (x : Nat) (st : List Value) (σ : sS), Rx E d 289 508 [l0, some (.ref x), l2, l3, l4, l5, l6, l7, l8, l9] st σ = Rx E d 289 509 [l0, some (.ref x), l2, l3, l4, l5, l6, l7, l8, l9] (.ref x :: st) σ) ∧
  (∀ (E : sV) (d : Nat) (l0 : Option Value) (l2 : Option Value) (l3 : Option Value) (l4 : Option Value) (l5 : Option Value) (l6 : Option Value) (l7 : Option Value) (l8 : Option Value) (l9 : Option Value) (st : List Value) (σ : sS), Rx E d 289 508 [l0, some (.null), l2, l3, l4, l5, l6, l7, l8, l9] st σ = Rx E d 289 509 [l0, some (.null), l2, l3, l4, l5, l6, l7, l8, l9] (.null :: st) σ) := ⟨fun _ _ _ _ _ _ _ _ _ _ _ _ _ _ _ _ => Rx_of gMT_289 d289_470 rfl,
  fun _ _ _ _ _ _ _ _ _ _ _ _ _ _ _ _ => Rx_ald gMT_289 d289_471 rfl rfl,
  fun _ _ _ _ _ _ _ _ _ _ _ _ _ _ _ _ _ => Rx_callV gMT_289 d289_472 rfl rfl rfl rfl rfl,
  fun _ _ _ _ _ _ _ _ _ _ _ _ _ _ _ => Rx_of gMT_289 d289_475 rfl,
  fun _ _ _ _ _ _ _ _ _ _ _ _ _ _ => Rx_of gMT_289 d289_477 rfl,
  fun _ _ _ _ _ _ _ _ _ _ _ _ _ => Rx_of gMT_289 d289_477 rfl,
  fun _ _ _ _ _ _ _ _ _ _ _ _ _ _ _ => Rx_callV gMT_289 d289_478 rfl rfl rfl rfl rfl,
  fun _ _ _ _ _ _ _ _ _ _ _ _ _ _ => Rx_of gMT_289 d289_481 rfl,
  fun _ _ _ _ _ _ _ _ _ _ _ _ _ _ _ _ => Rx_icmp gMT_289 d289_483 rfl rfl (by decide),
  fun _ _ _ _ _ _ _ _ _ _ _ _ _ _ => Rx_of gMT_289 d289_486 rfl,
  fun _ _ _ _ _ _ _ _ _ _ _ _ _ => (Rx_iret gMT_289 d289_487 rfl rfl).trans (if_pos rfl),
  fun _ _ _ _ _ _ _ _ _ _ _ _ _ => (Rx_iret gMT_289 d289_487 rfl rfl).trans (if_pos rfl),
  fun _ _ _ _ _ _ _ _ _ _ _ _ _ _ => Rx_iret gMT_289 d289_487 rfl rfl,
  fun _ _ _ _ _ _ _ _ _ _ _ _ _ _ => Rx_of gMT_289 d289_488 rfl,
  fun _ _ _ _ _ _ _ _ _ _ _ _ _ _ _ => Rx_if gMT_289 d289_490 rfl rfl (by decide),
  fun _ _ _ _ _ _ _ _ _ _ _ _ _ _ => Rx_of gMT_289 d289_493 rfl,
  fun _ _ _ _ _ _ _ _ _ _ _ _ _ => Rx_of gMT_289 d289_493 rfl,
  fun _ _ _ _ _ _ _ _ _ _ _ _ _ _ => Rx_of gMT_289 d289_494 rfl,
  fun _ _ _ _ _ _ _ _ _ _ _ _ _ _ _ _ => Rx_ald gMT_289 d289_495 rfl rfl,
  fun _ _ _ _ _ _ _ _ _ _ _ _ _ _ => Rx_of gMT_289 d289_496 rfl,
  fun _ _ _ _ _ _ _ _ _ _ _ _ _ _ _ => Rx_of gMT_289 d289_498 rfl,
  fun _ _ _ _ _ _ _ _ _ _ _ _ _ _ _ _ => Rx_of gMT_289 d289_499 rfl,
  fun _ _ _ _ _ _ _ _ _ _ _ _ _ _ _ => Rx_if gMT_289 d289_500 rfl rfl (by decide),
  fun _ _ _ _ _ _ _ _ _ _ _ _ _ _ => Rx_of gMT_289 d289_503 rfl,
  fun _ _ _ _ _ _ _ _ _ _ _ _ _ => (Rx_iret gMT_289 d289_504 rfl rfl).trans (if_pos rfl),
  fun _ _ _ _ _ _ _ _ _ _ _ _ _ => (Rx_iret gMT_289 d289_504 rfl rfl).trans (if_pos rfl),
  fun _ _ _ _ _ _ _ _ _ _ _ _ _ _ => Rx_iret gMT_289 d289_504 rfl rfl,
  fun _ _ _ _ _ _ _ _ _ _ _ _ _ _ => Rx_goto gMT_289 d289_505 rfl (by decide),
  fun _ _ _ _ _ _ _ _ _ _ _ _ _ _ => Rx_of gMT_289 d289_508 rfl,
  fun _ _ _ _ _ _ _ _ _ _ _ _ _ => Rx_of gMT_289 d289_508 rfl⟩
theorem QLaw_law_10 : (∀ (E : sV) (d : Nat) (l1 : Option Value) (l2 : Option Value) (l3 : Option Value) (l4 : Option Value) (l5 : Option Value) (l6 : Option Value) (l7 : Option Value) (l8 : Option Value) (l9 : Option Value) (x : Nat) (st : List Value) (σ : sS), Rx E d 289 509 [some (.ref x), l1, l2, l3, l4, l5, l6, l7, l8, l9] st σ = Rx E d 289 510 [some (.ref x), l1, l2, l3, l4, l5, l6, l7, l8, l9] (.ref x :: st) σ) ∧
  (∀ (E : sV) (d : Nat) (l1 : Option Value) (l2 : Option Value) (l3 : Option Value) (l4 : Option Value) (l5 : Option Value) (l6 : Option Value) (l7 : Option Value) (l8 : Option Value) (l9 : Option Value) (st : List Value) (σ : sS), Rx E d 289 509 [some (.null), l1, l2, l3, l4, l5, l6, l7, l8, l9] st σ = Rx E d 289 510 [some (.null), l1, l2, l3, l4, l5, l6, l7, l8, l9] (.null :: st) σ) ∧
  (∀ (E : sV) (d : Nat) (l0 : Option Value) (l1 : Option Value) (l2 : Option Value) (l3 : Option Value) (l4 : Option Value) (l6 : Option Value) (l7 : Option Value) (l8 : Option Value) (l9 : Option Value) (x : Int32) (st : List Value) (σ : sS), Rx E d 289 510 [l0, l1, l2, l3, l4, some (.int x), l6, l7, l8, l9] st σ = Rx E d 289 512 [l0, l1, l2, l3, l4, some (.int x), l6, l7, l8, l9] (.int x :: st) σ) ∧
  (∀ (E : sV) (d : Nat) (l0 l1 l2 l3 l4 l5 l6 l7 l8 l9 : Option Value) (st : List Value) (σ : sS), Rx E d 289 512 [l0, l1, l2, l3, l4, l5, l6, l7, l8, l9] st σ = Rx E d 289 513 [l0, l1, l2, l3, l4, l5, l6, l7, l8, l9] (.int (1) :: st) σ) ∧
  (∀ (E : sV) (d : Nat) (l0 l1 l2 l3 l4 l5 l6 l7 l8 l9 : Option Value) (x y : Int32) (st : List Value) (σ : sS), Rx E d 289 513 [l0, l1, l2, l3, l4, l5, l6, l7, l8, l9] (.int y :: .int x :: st) σ = Rx E d 289 514 [l0, l1, l2, l3, l4, l5, l6, l7, l8, l9] (.int (x + y) :: st) σ) ∧
  (∀ (E : sV) (d : Nat) (l0 l1 l2 l3 l4 l5 l6 l7 l8 l9 : Option Value) (i : Int32) (a : Nat) (st : List Value) (σ : sS), Rx E d 289 514 [l0, l1, l2, l3, l4, l5, l6, l7, l8, l9] (.int i :: .ref a :: st) σ = (aldI .int σ.1 a i).bind (fun v => Rx E d 289 515 [l0, l1, l2, l3, l4, l5, l6, l7, l8, l9] (v :: st) σ)) ∧
  (∀ (E : sV) (d : Nat) (l0 : Option Value) (l1 : Option Value) (l2 : Option Value) (l4 : Option Value) (l5 : Option Value) (l6 : Option Value) (l7 : Option Value) (l8 : Option Value) (l9 : Option Value) (x : Nat) (st : List Value) (σ : sS), Rx E d 289 515 [l0, l1, l2, some (.ref x), l4, l5, l6, l7, l8, l9] st σ = Rx E d 289 516 [l0, l1, l2, some (.ref x), l4, l5, l6, l7, l8, l9] (.ref x :: st) σ) ∧
  (∀ (E : sV) (d : Nat) (l0 : Option Value) (l1 : Option Value) (l2 : Option Value) (l4 : Option Value) (l5 : Option Value) (l6 : Option Value) (l7 : Option Value) (l8 : Option Value) (l9 : Option Value) (st : List Value) (σ : sS), Rx E d 289 515 [l0, l1, l2, some (.null), l4, l5, l6, l7, l8, l9] st σ = Rx E d 289 516 [l0, l1, l2, some (.null), l4, l5, l6, l7, l8, l9] (.null :: st) σ) ∧
  (∀ (E : sV) (d : Nat) (l0 l1 l2 l3 l4 l5 l6 l7 l8 l9 : Option Value) (v1 v2 v3 : Value) (st : List Value) (σ : sS), Rx E d 289 516 [l0, l1, l2, l3, l4, l5, l6, l7, l8, l9] (v3 :: v2 :: v1 :: st) σ = if cats st ≤ 8 then callK (Mt E d 249 [v1, v2, v3] σ) (fun v σ => Rx E d 289 519 [l0, l1, l2, l3, l4, l5, l6, l7, l8, l9] (v.toList ++ st) σ) else none) ∧
  (∀ (E : sV) (d : Nat) (l0 l1 l2 l3 l4 l5 l6 l7 l8 l9 : Option Value) (x : Int32) (st : List Value) (σ : sS), Rx E d 289 519 [l0, l1, l2, l3, l4, l5, l6, l7, l8, l9] (.int x :: st) σ = Rx E d 289 521 [l0, l1, l2, l3, l4, ldrop l5, some (.int x), l7, l8, l9] st σ) ∧
  (∀ (E : sV) (d : Nat) (l0 : Option Value) (l1 : Option Value) (l3 : Option Value) (l4 : Option Value) (l5 : Option Value) (l6 : Option Value) (l7 : Option Value) (l8 : Option Value) (l9 : Option Value) (x : Nat) (st : List Value) (σ : sS), Rx E d 289 521 [l0, l1, some (.ref x), l3, l4, l5, l6, l7, l8, l9] st σ = Rx E d 289 522 [l0, l1, some (.ref x), l3, l4, l5, l6, l7, l8, l9] (.ref x :: st) σ) ∧
  (∀ (E : sV) (d : Nat) (l0 : Option Value) (l1 : Option Value) (l3 : Option Value) (l4 : Option Value) (l5 : Option Value) (l6 : Option Value) (l7 : Option Value) (l8 : Option Value) (l9 : Option Value) (st : List Value) (σ : sS), Rx E d 289 521 [l0, l1, some (.null), l3, l4, l5, l6, l7, l8, l9] st σ = Rx E d 289 522 [l0, l1, some (.null), l3, l4, l5, l6, l7, l8, l9] (.null :: st) σ) ∧
  (∀ (E : sV) (d : Nat) (l1 : Option Value) (l2 : Option Value) (l3 : Option Value) (l4 : Option Value) (l5 : Option Value) (l6 : Option Value) (l7 : Option Value) (l8 : Option Value) (l9 : Option Value) (x : Nat) (st : List Value) (σ : sS), Rx E d 289 522 [some (.ref x), l1, l2, l3, l4, l5, l6, l7, l8, l9] st σ = Rx E d 289 523 [some (.ref x), l1, l2, l3, l4, l5, l6, l7, l8, l9] (.ref x :: st) σ) ∧
  (∀ (E : sV) (d : Nat) (l1 : Option Value) (l2 : Option Value) (l3 : Option Value) (l4 : Option Value) (l5 : Option Value) (l6 : Option Value) (l7 : Option Value) (l8 : Option Value) (l9 : Option Value) (st : List Value) (σ : sS), Rx E d 289 522 [some (.null), l1, l2, l3, l4, l5, l6, l7, l8, l9] st σ = Rx E d 289 523 [some (.null), l1, l2, l3, l4, l5, l6, l7, l8, l9] (.null :: st) σ) ∧
  (∀ (E : sV) (d : Nat) (l0 : Option Value) (l1 : Option Value) (l2 : Option Value) (l3 : Option Value) (l4 : Option Value) (l6 : Option Value) (l7 : Option Value) (l8 : Option Value) (l9 : Option Value) (x : Int32) (st : List Value) (σ : sS), Rx E d 289 523 [l0, l1, l2, l3, l4, some (.int x), l6, l7, l8, l9] st σ = Rx E d 289 525 [l0, l1, l2, l3, l4, some (.int x), l6, l7, l8, l9] (.int x :: st) σ) ∧
  (∀ (E : sV) (d : Nat) (l0 l1 l2 l3 l4 l5 l6 l7 l8 l9 : Option Value) (st : List Value) (σ : sS), Rx E d 289 525 [l0, l1, l2, l3, l4, l5, l6, l7, l8, l9] st σ = Rx E d 289 526 [l0, l1, l2, l3, l4, l5, l6, l7, l8, l9] (.int (1) :: st) σ) ∧
  (∀ (E : sV) (d : Nat) (l0 l1 l2 l3 l4 l5 l6 l7 l8 l9 : Option Value) (x y : Int32) (st : List Value) (σ : sS), Rx E d 289 526 [l0, l1, l2, l3, l4, l5, l6, l7, l8, l9] (.int y :: .int x :: st) σ = Rx E d 289 527 [l0, l1, l2, l3, l4, l5, l6, l7, l8, l9] (.int (x + y) :: st) σ) ∧
  (∀ (E : sV) (d : Nat) (l0 l1 l2 l3 l4 l5 l6 l7 l8 l9 : Option Value) (i : Int32) (a : Nat) (st : List Value) (σ : sS), Rx E d 289 527 [l0, l1, l2, l3, l4, l5, l6, l7, l8, l9] (.int i :: .ref a :: st) σ = (aldI .int σ.1 a i).bind (fun v => Rx E d 289 528 [l0, l1, l2, l3, l4, l5, l6, l7, l8, l9] (v :: st) σ)) ∧
  (∀ (E : sV) (d : Nat) (l0 l1 l2 l3 l4 l5 l6 l7 l8 l9 : Option Value) (v1 : Value) (b : Nat) (st : List Value) (σ : sS), Rx E d 289 528 [l0, l1, l2, l3, l4, l5, l6, l7, l8, l9] (v1 :: .ref b :: st) σ = if cats st ≤ 8 ∧ isOb σ.1 b 8 = true then callK (Mt E d 147 [.ref b, v1] σ) (fun v σ => Rx E d 289 531 [l0, l1, l2, l3, l4, l5, l6, l7, l8, l9] (v.toList ++ st) σ) else none) ∧
  (∀ (E : sV) (d : Nat) (l0 l1 l2 l3 l4 l5 l6 l7 l8 l9 : Option Value) (x : Int32) (st : List Value) (σ : sS), Rx E d 289 531 [l0, l1, l2, l3, l4, l5, l6, l7, l8, l9] (.int x :: st) σ = Rx E d 289 533 [l0, l1, l2, l3, l4, l5, ldrop l6, some (.int x), l8, l9] st σ) ∧
  (∀ (E : sV) (d : Nat) (l0 : Option Value) (l1 : Option Value) (l3 : Option Value) (l4 : Option Value) (l5 : Option Value) (l6 : Option Value) (l7 : Option Value) (l8 : Option Value) (l9 : Option Value) (x : Nat) (st : List Value) (σ : sS), Rx E d 289 533 [l0, l1, some (.ref x), l3, l4, l5, l6, l7, l8, l9] st σ = Rx E d 289 534 [l0, l1, some (.ref x), l3, l4, l5, l6, l7, l8, l9] (.ref x :: st) σ) ∧
  (∀ (E : sV) (d : Nat) (l0 : Option Value) (l1 : Option Value) (l3 : Option Value) (l4 : Option Value) (l5 : Option Value) (l6 : Option Value) (l7 : Option Value) (l8 : Option Value) (l9 : Option Value) (st : List Value) (σ : sS), Rx E d 289 533 [l0, l1, some (.null), l3, l4, l5, l6, l7, l8, l9] st σ = Rx E d 289 534 [l0, l1, some (.null), l3, l4, l5, l6, l7, l8, l9] (.null :: st) σ) ∧
  (∀ (E : sV) (d : Nat) (l0 l1 l2 l3 l4 l5 l6 l7 l8 l9 : Option Value) (b : Nat) (st : List Value) (σ : sS), Rx E d 289 534 [l0, l1, l2, l3, l4, l5, l6, l7, l8, l9] (.ref b :: st) σ = if cats st ≤ 8 ∧ isOb σ.1 b 8 = true then callK (Mt E d 127 [.ref b] σ) (fun v σ => Rx E d 289 537 [l0, l1, l2, l3, l4, l5, l6, l7, l8, l9] (v.toList ++ st) σ) else none) ∧
  (∀ (E : sV) (d : Nat) (l0 : Option Value) (l1 : Option Value) (l2 : Option Value) (l3 : Option Value) (l4 : Option Value) (l5 : Option Value) (l7 : Option Value) (l8 : Option Value) (l9 : Option Value) (x : Int32) (st : List Value) (σ : sS), Rx E d 289 537 [l0, l1, l2, l3, l4, l5, some (.int x), l7, l8, l9] st σ = Rx E d 289 539 [l0, l1, l2, l3, l4, l5, some (.int x), l7, l8, l9] (.int x :: st) σ) ∧
  (∀ (E : sV) (d : Nat) (l0 l1 l2 l3 l4 l5 l6 l7 l8 l9 : Option Value) (x y : Int32) (st : List Value) (σ : sS), Rx E d 289 539 [l0, l1, l2, l3, l4, l5, l6, l7, l8, l9] (.int y :: .int x :: st) σ = if x = y then Rx E d 289 544 [l0, l1, l2, l3, l4, l5, l6, l7, l8, l9] st σ else Rx E d 289 542 [l0, l1, l2, l3, l4, l5, l6, l7, l8, l9] st σ) ∧
  (∀ (E : sV) (d : Nat) (l0 l1 l2 l3 l4 l5 l6 l7 l8 l9 : Option Value) (st : List Value) (σ : sS), Rx E d 289 542 [l0, l1, l2, l3, l4, l5, l6, l7, l8, l9] st σ = Rx E d 289 543 [l0, l1, l2, l3, l4, l5, l6, l7, l8, l9] (.int (0) :: st) σ) ∧
  (∀ (E : sV) (d : Nat) (l0 l1 l2 l3 l4 l5 l6 l7 l8 l9 : Option Value) (σ : sS), Rx E d 289 543 [l0, l1, l2, l3, l4, l5, l6, l7, l8, l9] [.int 0] σ = some (.inl (some (.int 0)), σ)) ∧
  (∀ (E : sV) (d : Nat) (l0 l1 l2 l3 l4 l5 l6 l7 l8 l9 : Option Value) (σ : sS), Rx E d 289 543 [l0, l1, l2, l3, l4, l5, l6, l7, l8, l9] [.int 1] σ = some (.inl (some (.int 1)), σ)) ∧
  (∀ (E : sV) (d : Nat) (l0 l1 l2 l3 l4 l5 l6 l7 l8 l9 : Option Value) (v : Int32) (σ : sS), Rx E d 289 543 [l0, l1, l2, l3, l4, l5, l6, l7, l8, l9] [.int v] σ = if narrow .boolean (.int v) = .int v then some (.inl (some (.int v)), σ) else none) ∧
  (∀ (E : sV) (d : Nat) (l0 : Option Value) (l1 : Option Value) (l2 : Option Value) (l3 : Option Value) (l4 : Option Value) (l5 : Option Value) (l7 : Option Value) (l8 : Option Value) (l9 : Option Value) (x : Int32) (st : List Value) (σ : sS), Rx E d 289 544 [l0, l1, l2, l3, l4, l5, some (.int x), l7, l8, l9] st σ = Rx E d 289 546 [l0, l1, l2, l3, l4, l5, some (.int x), l7, l8, l9] (.int x :: st) σ) := ⟨fun _ _ _ _ _ _ _ _ _ _ _ _ _ _ => Rx_of gMT_289 d289_509 rfl,
  fun _ _ _ _ _ _ _ _ _ _ _ _ _ => Rx_of gMT_289 d289_509 rfl,
  fun _ _ _ _ _ _ _ _ _ _ _ _ _ _ => Rx_of gMT_289 d289_510 rfl,
  fun _ _ _ _ _ _ _ _ _ _ _ _ _ _ => Rx_of gMT_289 d289_512 rfl,
  fun _ _ _ _ _ _ _ _ _ _ _ _ _ _ _ _ => Rx_of gMT_289 d289_513 rfl,
  fun _ _ _ _ _ _ _ _ _ _ _ _ _ _ _ _ => Rx_ald gMT_289 d289_514 rfl rfl,
  fun _ _ _ _ _ _ _ _ _ _ _ _ _ _ => Rx_of gMT_289 d289_515 rfl,
  fun _ _ _ _ _ _ _ _ _ _ _ _ _ => Rx_of gMT_289 d289_515 rfl,
  fun _ _ _ _ _ _ _ _ _ _ _ _ _ _ _ _ _ => Rx_callS gMT_289 d289_516 rfl rfl rfl rfl rfl,
  fun _ _ _ _ _ _ _ _ _ _ _ _ _ _ _ => Rx_of gMT_289 d289_519 rfl,
  fun _ _ _ _ _ _ _ _ _ _ _ _ _ _ => Rx_of gMT_289 d289_521 rfl,
  fun _ _ _ _ _ _ _ _ _ _ _ _ _ => Rx_of gMT_289 d289_521 rfl,
  fun _ _ _ _ _ _ _ _ _ _ _ _ _ _ => Rx_of gMT_289 d289_522 rfl,
  fun _ _ _ _ _ _ _ _ _ _ _ _ _ => Rx_of gMT_289 d289_522 rfl,
  fun _ _ _ _ _ _ _ _ _ _ _ _ _ _ => Rx_of gMT_289 d289_523 rfl,
  fun _ _ _ _ _ _ _ _ _ _ _ _ _ _ => Rx_of gMT_289 d289_525 rfl,
  fun _ _ _ _ _ _ _ _ _ _ _ _ _ _ _ _ => Rx_of gMT_289 d289_526 rfl,
  fun _ _ _ _ _ _ _ _ _ _ _ _ _ _ _ _ => Rx_ald gMT_289 d289_527 rfl rfl,
  fun _ _ _ _ _ _ _ _ _ _ _ _ _ _ _ _ => Rx_callV gMT_289 d289_528 rfl rfl rfl rfl rfl,
  fun _ _ _ _ _ _ _ _ _ _ _ _ _ _ _ => Rx_of gMT_289 d289_531 rfl,
  fun _ _ _ _ _ _ _ _ _ _ _ _ _ _ => Rx_of gMT_289 d289_533 rfl,
  fun _ _ _ _ _ _ _ _ _ _ _ _ _ => Rx_of gMT_289 d289_533 rfl,
  fun _ _ _ _ _ _ _ _ _ _ _ _ _ _ _ => Rx_callV gMT_289 d289_534 rfl rfl rfl rfl rfl,
  fun _ _ _ _ _ _ _ _ _ _ _ _ _ _ => Rx_of gMT_289 d289_537 rfl,
  fun _ _ _ _ _ _ _ _ _ _ _ _ _ _ _ _ => Rx_icmp gMT_289 d289_539 rfl rfl (by decide),
  fun _ _ _ _ _ _ _ _ _ _ _ _ _ _ => Rx_of gMT_289 d289_542 rfl,
  fun _ _ _ _ _ _ _ _ _ _ _ _ _ => (Rx_iret gMT_289 d289_543 rfl rfl).trans (if_pos rfl),
  fun _ _ _ _ _ _ _ _ _ _ _ _ _ => (Rx_iret gMT_289 d289_543 rfl rfl).trans (if_pos rfl),
  fun _ _ _ _ _ _ _ _ _ _ _ _ _ _ => Rx_iret gMT_289 d289_543 rfl rfl,
  fun _ _ _ _ _ _ _ _ _ _ _ _ _ _ => Rx_of gMT_289 d289_544 rfl⟩
theorem QLaw_law_11 : (∀ (E : sV) (d : Nat) (l0 l1 l2 l3 l4 l5 l6 l7 l8 l9 : Option Value) (x : Int32) (st : List Value) (σ : sS), Rx E d 289 546 [l0, l1, l2, l3, l4, l5, l6, l7, l8, l9] (.int x :: st) σ = if ¬ x = 0 then Rx E d 289 561 [l0, l1, l2, l3, l4, l5, l6, l7, l8, l9] st σ else Rx E d 289 549 [l0, l1, l2, l3, l4, l5, l6, l7, l8, l9] st σ) ∧
  (∀ (E : sV) (d : Nat) (l0 : Option Value) (l1 : Option Value) (l2 : Option Value) (l4 : Option Value) (l5 : Option Value) (l6 : Option Value) (l7 : Option Value) (l8 : Option Value) (l9 : Option Value) (x : Nat) (st : List Value) (σ : sS), Rx E d 289 549 [l0, l1, l2, some (.ref x), l4, l5, l6, l7, l8, l9] st σ = Rx E d 289 550 [l0, l1, l2, some (.ref x), l4, l5, l6, l7, l8, l9] (.ref x :: st) σ) ∧
  (∀ (E : sV) (d : Nat) (l0 : Option Value) (l1 : Option Value) (l2 : Option Value) (l4 : Option Value) (l5 : Option Value) (l6 : Option Value) (l7 : Option Value) (l8 : Option Value) (l9 : Option Value) (st : List Value) (σ : sS), Rx E d 289 549 [l0, l1, l2, some (.null), l4, l5, l6, l7, l8, l9] st σ = Rx E d 289 550 [l0, l1, l2, some (.null), l4, l5, l6, l7, l8, l9] (.null :: st) σ) ∧
  (∀ (E : sV) (d : Nat) (l0 l1 l2 l3 l4 l5 l6 l7 l8 l9 : Option Value) (st : List Value) (σ : sS), Rx E d 289 550 [l0, l1, l2, l3, l4, l5, l6, l7, l8, l9] st σ = Rx E d 289 551 [l0, l1, l2, l3, l4, l5, l6, l7, l8, l9] (.int (0) :: st) σ) ∧
  (∀ (E : sV) (d : Nat) (l0 l1 l2 l3 l4 l5 l6 l7 l8 l9 : Option Value) (i : Int32) (a : Nat) (st : List Value) (σ : sS), Rx E d 289 551 [l0, l1, l2, l3, l4, l5, l6, l7, l8, l9] (.int i :: .ref a :: st) σ = (aldL σ.1 a i).bind (fun v => Rx E d 289 552 [l0, l1, l2, l3, l4, l5, l6, l7, l8, l9] (v :: st) σ)) ∧
  (∀ (E : sV) (d : Nat) (l0 : Option Value) (l1 : Option Value) (l2 : Option Value) (l3 : Option Value) (l4 : Option Value) (l5 : Option Value) (l6 : Option Value) (l8 : Option Value) (l9 : Option Value) (x : Int32) (st : List Value) (σ : sS), Rx E d 289 552 [l0, l1, l2, l3, l4, l5, l6, some (.int x), l8, l9] st σ = Rx E d 289 554 [l0, l1, l2, l3, l4, l5, l6, some (.int x), l8, l9] (.int x :: st) σ) ∧
  (∀ (E : sV) (d : Nat) (l0 l1 l2 l3 l4 l5 l6 l7 l8 l9 : Option Value) (x : Int32) (st : List Value) (σ : sS), Rx E d 289 554 [l0, l1, l2, l3, l4, l5, l6, l7, l8, l9] (.int x :: st) σ = Rx E d 289 555 [l0, l1, l2, l3, l4, l5, l6, l7, l8, l9] (.long x.toInt64 :: st) σ) ∧
  (∀ (E : sV) (d : Nat) (l0 l1 l2 l3 l4 l5 l6 l7 l8 l9 : Option Value) (x y : Int64) (st : List Value) (σ : sS), Rx E d 289 555 [l0, l1, l2, l3, l4, l5, l6, l7, l8, l9] (.long y :: .long x :: st) σ = Rx E d 289 556 [l0, l1, l2, l3, l4, l5, l6, l7, l8, l9] (.int (lg_cmp x y) :: st) σ) ∧
  (∀ (E : sV) (d : Nat) (l0 l1 l2 l3 l4 l5 l6 l7 l8 l9 : Option Value) (x : Int32) (st : List Value) (σ : sS), Rx E d 289 556 [l0, l1, l2, l3, l4, l5, l6, l7, l8, l9] (.int x :: st) σ = if x = 0 then Rx E d 289 561 [l0, l1, l2, l3, l4, l5, l6, l7, l8, l9] st σ else Rx E d 289 559 [l0, l1, l2, l3, l4, l5, l6, l7, l8, l9] st σ) ∧
  (∀ (E : sV) (d : Nat) (l0 l1 l2 l3 l4 l5 l6 l7 l8 l9 : Option Value) (st : List Value) (σ : sS), Rx E d 289 559 [l0, l1, l2, l3, l4, l5, l6, l7, l8, l9] st σ = Rx E d 289 560 [l0, l1, l2, l3, l4, l5, l6, l7, l8, l9] (.int (0) :: st) σ) ∧
  (∀ (E : sV) (d : Nat) (l0 l1 l2 l3 l4 l5 l6 l7 l8 l9 : Option Value) (σ : sS), Rx E d 289 560 [l0, l1, l2, l3, l4, l5, l6, l7, l8, l9] [.int 0] σ = some (.inl (some (.int 0)), σ)) ∧
  (∀ (E : sV) (d : Nat) (l0 l1 l2 l3 l4 l5 l6 l7 l8 l9 : Option Value) (σ : sS), Rx E d 289 560 [l0, l1, l2, l3, l4, l5, l6, l7, l8, l9] [.int 1] σ = some (.inl (some (.int 1)), σ)) ∧
  (∀ (E : sV) (d : Nat) (l0 l1 l2 l3 l4 l5 l6 l7 l8 l9 : Option Value) (v : Int32) (σ : sS), Rx E d 289 560 [l0, l1, l2, l3, l4, l5, l6, l7, l8, l9] [.int v] σ = if narrow .boolean (.int v) = .int v then some (.inl (some (.int v)), σ) else none) ∧
  (∀ (E : sV) (d : Nat) (l0 l1 l2 l3 l4 l5 l6 l7 l8 l9 : Option Value) (st : List Value) (σ : sS), Rx E d 289 561 [l0, l1, l2, l3, l4, l5, l6, l7, l8, l9] st σ = Rx E d 289 3001 [l0, l1, l2, l3, l4, l5, l6, l7, l8, l9] st σ) ∧
  (∀ (E : sV) (d : Nat) (l0 : Option Value) (l2 : Option Value) (l3 : Option Value) (l4 : Option Value) (l5 : Option Value) (l6 : Option Value) (l7 : Option Value) (l8 : Option Value) (l9 : Option Value) (x : Nat) (st : List Value) (σ : sS), Rx E d 289 564 [l0, some (.ref x), l2, l3, l4, l5, l6, l7, l8, l9] st σ = Rx E d 289 565 [l0, some (.ref x), l2, l3, l4, l5, l6, l7, l8, l9] (.ref x :: st) σ) ∧
  (∀ (E : sV) (d : Nat) (l0 : Option Value) (l2 : Option Value) (l3 : Option Value) (l4 : Option Value) (l5 : Option Value) (l6 : Option Value) (l7 : Option Value) (l8 : Option Value) (l9 : Option Value) (st : List Value) (σ : sS), Rx E d 289 564 [l0, some (.null), l2, l3, l4, l5, l6, l7, l8, l9] st σ = Rx E d 289 565 [l0, some (.null), l2, l3, l4, l5, l6, l7, l8, l9] (.null :: st) σ) ∧
  (∀ (E : sV) (d : Nat) (l1 : Option Value) (l2 : Option Value) (l3 : Option Value) (l4 : Option Value) (l5 : Option Value) (l6 : Option Value) (l7 : Option Value) (l8 : Option Value) (l9 : Option Value) (x : Nat) (st : List Value) (σ : sS), Rx E d 289 565 [some (.ref x), l1, l2, l3, l4, l5, l6, l7, l8, l9] st σ = Rx E d 289 566 [some (.ref x), l1, l2, l3, l4, l5, l6, l7, l8, l9] (.ref x :: st) σ) ∧
  (∀ (E : sV) (d : Nat) (l1 : Option Value) (l2 : Option Value) (l3 : Option Value) (l4 : Option Value) (l5 : Option Value) (l6 : Option Value) (l7 : Option Value) (l8 : Option Value) (l9 : Option Value) (st : List Value) (σ : sS), Rx E d 289 565 [some (.null), l1, l2, l3, l4, l5, l6, l7, l8, l9] st σ = Rx E d 289 566 [some (.null), l1, l2, l3, l4, l5, l6, l7, l8, l9] (.null :: st) σ) ∧
  (∀ (E : sV) (d : Nat) (l0 : Option Value) (l1 : Option Value) (l2 : Option Value) (l3 : Option Value) (l4 : Option Value) (l6 : Option Value) (l7 : Option Value) (l8 : Option Value) (l9 : Option Value) (x : Int32) (st : List Value) (σ : sS), Rx E d 289 566 [l0, l1, l2, l3, l4, some (.int x), l6, l7, l8, l9] st σ = Rx E d 289 568 [l0, l1, l2, l3, l4, some (.int x), l6, l7, l8, l9] (.int x :: st) σ) ∧
  (∀ (E : sV) (d : Nat) (l0 l1 l2 l3 l4 l5 l6 l7 l8 l9 : Option Value) (st : List Value) (σ : sS), Rx E d 289 568 [l0, l1, l2, l3, l4, l5, l6, l7, l8, l9] st σ = Rx E d 289 569 [l0, l1, l2, l3, l4, l5, l6, l7, l8, l9] (.int (1) :: st) σ) ∧
  (∀ (E : sV) (d : Nat) (l0 l1 l2 l3 l4 l5 l6 l7 l8 l9 : Option Value) (x y : Int32) (st : List Value) (σ : sS), Rx E d 289 569 [l0, l1, l2, l3, l4, l5, l6, l7, l8, l9] (.int y :: .int x :: st) σ = Rx E d 289 570 [l0, l1, l2, l3, l4, l5, l6, l7, l8, l9] (.int (x + y) :: st) σ) ∧
  (∀ (E : sV) (d : Nat) (l0 l1 l2 l3 l4 l5 l6 l7 l8 l9 : Option Value) (i : Int32) (a : Nat) (st : List Value) (σ : sS), Rx E d 289 570 [l0, l1, l2, l3, l4, l5, l6, l7, l8, l9] (.int i :: .ref a :: st) σ = (aldI .int σ.1 a i).bind (fun v => Rx E d 289 571 [l0, l1, l2, l3, l4, l5, l6, l7, l8, l9] (v :: st) σ)) ∧
  (∀ (E : sV) (d : Nat) (l0 l1 l2 l3 l4 l5 l6 l7 l8 l9 : Option Value) (x : Int32) (st : List Value) (σ : sS), Rx E d 289 571 [l0, l1, l2, l3, l4, l5, l6, l7, l8, l9] (.int x :: st) σ = Rx E d 289 572 [l0, l1, l2, l3, l4, l5, l6, l7, l8, l9] (.int (x.toUInt32 % 65536).toInt32 :: st) σ) ∧
  (∀ (E : sV) (d : Nat) (l1 : Option Value) (l2 : Option Value) (l3 : Option Value) (l4 : Option Value) (l5 : Option Value) (l6 : Option Value) (l7 : Option Value) (l8 : Option Value) (l9 : Option Value) (x : Nat) (st : List Value) (σ : sS), Rx E d 289 572 [some (.ref x), l1, l2, l3, l4, l5, l6, l7, l8, l9] st σ = Rx E d 289 573 [some (.ref x), l1, l2, l3, l4, l5, l6, l7, l8, l9] (.ref x :: st) σ) ∧
  (∀ (E : sV) (d : Nat) (l1 : Option Value) (l2 : Option Value) (l3 : Option Value) (l4 : Option Value) (l5 : Option Value) (l6 : Option Value) (l7 : Option Value) (l8 : Option Value) (l9 : Option Value) (st : List Value) (σ : sS), Rx E d 289 572 [some (.null), l1, l2, l3, l4, l5, l6, l7, l8, l9] st σ = Rx E d 289 573 [some (.null), l1, l2, l3, l4, l5, l6, l7, l8, l9] (.null :: st) σ) ∧
  (∀ (E : sV) (d : Nat) (l0 : Option Value) (l1 : Option Value) (l2 : Option Value) (l3 : Option Value) (l4 : Option Value) (l6 : Option Value) (l7 : Option Value) (l8 : Option Value) (l9 : Option Value) (x : Int32) (st : List Value) (σ : sS), Rx E d 289 573 [l0, l1, l2, l3, l4, some (.int x), l6, l7, l8, l9] st σ = Rx E d 289 575 [l0, l1, l2, l3, l4, some (.int x), l6, l7, l8, l9] (.int x :: st) σ) ∧
  (∀ (E : sV) (d : Nat) (l0 l1 l2 l3 l4 l5 l6 l7 l8 l9 : Option Value) (st : List Value) (σ : sS), Rx E d 289 575 [l0, l1, l2, l3, l4, l5, l6, l7, l8, l9] st σ = Rx E d 289 576 [l0, l1, l2, l3, l4, l5, l6, l7, l8, l9] (.int (2) :: st) σ) ∧
  (∀ (E : sV) (d : Nat) (l0 l1 l2 l3 l4 l5 l6 l7 l8 l9 : Option Value) (x y : Int32) (st : List Value) (σ : sS), Rx E d 289 576 [l0, l1, l2, l3, l4, l5, l6, l7, l8, l9] (.int y :: .int x :: st) σ = Rx E d 289 577 [l0, l1, l2, l3, l4, l5, l6, l7, l8, l9] (.int (x + y) :: st) σ) ∧
  (∀ (E : sV) (d : Nat) (l0 l1 l2 l3 l4 l5 l6 l7 l8 l9 : Option Value) (i : Int32) (a : Nat) (st : List Value) (σ : sS), Rx E d 289 577 [l0, l1, l2, l3, l4, l5, l6, l7, l8, l9] (.int i :: .ref a :: st) σ = (aldI .int σ.1 a i).bind (fun v => Rx E d 289 578 [l0, l1, l2, l3, l4, l5, l6, l7, l8, l9] (v :: st) σ)) ∧
  (∀ (E : sV) (d : Nat) (l0 : Option Value) (l1 : Option Value) (l2 : Option Value) (l4 : Option Value) (l5 : Option Value) (l6 : Option Value) (l7 : Option Value) (l8 : Option Value) (l9 : Option Value) (x : Nat) (st : List Value) (σ : sS), Rx E d 289 578 [l0, l1, l2, some (.ref x), l4, l5, l6, l7, l8, l9] st σ = Rx E d 289 579 [l0, l1, l2, some (.ref x), l4, l5, l6, l7, l8, l9] (.ref x :: st) σ) := ⟨fun _ _ _ _ _ _ _ _ _ _ _ _ _ _ _ => Rx_if gMT_289 d289_546 rfl rfl (by decide),
  fun _ _ _ _ _ _ _ _ _ _ _ _ _ _ => Rx_of gMT_289 d289_549 rfl,
  fun _ _ _ _ _ _ _ _ _ _ _ _ _ => Rx_of gMT_289 d289_549 rfl,
  fun _ _ _ _ _ _ _ _ _ _ _ _ _ _ => Rx_of gMT_289 d289_550 rfl,
  fun _ _ _ _ _ _ _ _ _ _ _ _ _ _ _ _ => Rx_ald gMT_289 d289_551 rfl rfl,
  fun _ _ _ _ _ _ _ _ _ _ _ _ _ _ => Rx_of gMT_289 d289_552 rfl,
  fun _ _ _ _ _ _ _ _ _ _ _ _ _ _ _ => Rx_of gMT_289 d289_554 rfl,
  fun _ _ _ _ _ _ _ _ _ _ _ _ _ _ _ _ => Rx_of gMT_289 d289_555 rfl,
  fun _ _ _ _ _ _ _ _ _ _ _ _ _ _ _ => Rx_if gMT_289 d289_556 rfl rfl (by decide),
  fun _ _ _ _ _ _ _ _ _ _ _ _ _ _ => Rx_of gMT_289 d289_559 rfl,
  fun _ _ _ _ _ _ _ _ _ _ _ _ _ => (Rx_iret gMT_289 d289_560 rfl rfl).trans (if_pos rfl),
  fun _ _ _ _ _ _ _ _ _ _ _ _ _ => (Rx_iret gMT_289 d289_560 rfl rfl).trans (if_pos rfl),
  fun _ _ _ _ _ _ _ _ _ _ _ _ _ _ => Rx_iret gMT_289 d289_560 rfl rfl,
  fun _ _ _ _ _ _ _ _ _ _ _ _ _ _ => Rx_goto gMT_289 d289_561 rfl (by decide),
  fun _ _ _ _ _ _ _ _ _ _ _ _ _ _ => Rx_of gMT_289 d289_564 rfl,
  fun _ _ _ _ _ _ _ _ _ _ _ _ _ => Rx_of gMT_289 d289_564 rfl,
  fun _ _ _ _ _ _ _ _ _ _ _ _ _ _ => Rx_of gMT_289 d289_565 rfl,
  fun _ _ _ _ _ _ _ _ _ _ _ _ _ => Rx_of gMT_289 d289_565 rfl,
  fun _ _ _ _ _ _ _ _ _ _ _ _ _ _ => Rx_of gMT_289 d289_566 rfl,
  fun _ _ _ _ _ _ _ _ _ _ _ _ _ _ => Rx_of gMT_289 d289_568 rfl,
  fun _ _ _ _ _ _ _ _ _ _ _ _ _ _ _ _ => Rx_of gMT_289 d289_569 rfl,
  fun _ _ _ _ _ _ _ _ _ _ _ _ _ _ _ _ => Rx_ald gMT_289 d289_570 rfl rfl,
  fun _ _ _ _ _ _ _ _ _ _ _ _ _ _ _ => Rx_of gMT_289 d289_571 rfl,
  fun _ _ _ _ _ _ _ _ _ _ _ _ _ _ => Rx_of gMT_289 d289_572 rfl,
  fun _ _ _ _ _ _ _ _ _ _ _ _ _ => Rx_of gMT_289 d289_572 rfl,
  fun _ _ _ _ _ _ _ _ _ _ _ _ _ _ => Rx_of gMT_289 d289_573 rfl,
  fun _ _ _ _ _ _ _ _ _ _ _ _ _ _ => Rx_of gMT_289 d289_575 rfl,
  fun _ _ _ _ _ _ _ _ _ _ _ _ _ _ _ _ => Rx_of gMT_289 d289_576 rfl,
  fun _ _ _ _ _ _ _ _ _ _ _ _ _ _ _ _ => Rx_ald gMT_289 d289_577 rfl rfl,
  fun _ _ _ _ _ _ _ _ _ _ _ _ _ _ => Rx_of gMT_289 d289_578 rfl⟩
theorem QLaw_law_12 : (∀ (E : sV) (d : Nat) (l0 : Option Value) (l1 : Option Value) (l2 : Option Value) (l4 : Option Value) (l5 : Option Value) (l6 : Option Value) (l7 : Option Value) (l8 : Option Value) (l9 : Option Value) (st : List Value) (σ : sS), Rx E d 289 578 [l0, l1, l2, some (.null), l4, l5, l6, l7, l8, l9] st σ = Rx E d 289 579 [l0, l1, l2, some (.null), l4, l5, l6, l7, l8, l9] (.null :: st) σ) ∧
  (∀ (E : sV) (d : Nat) (l0 l1 l2 l3 l4 l5 l6 l7 l8 l9 : Option Value) (v1 v2 v3 v4 : Value) (st : List Value) (σ : sS), Rx E d 289 579 [l0, l1, l2, l3, l4, l5, l6, l7, l8, l9] (v4 :: v3 :: v2 :: v1 :: st) σ = if cats st ≤ 8 then callK (Mt E d 250 [v1, v2, v3, v4] σ) (fun v σ => Rx E d 289 582 [l0, l1, l2, l3, l4, l5, l6, l7, l8, l9] (v.toList ++ st) σ) else none) ∧
  (∀ (E : sV) (d : Nat) (l0 l1 l2 l3 l4 l5 l6 l7 l8 l9 : Option Value) (x : Int32) (st : List Value) (σ : sS), Rx E d 289 582 [l0, l1, l2, l3, l4, l5, l6, l7, l8, l9] (.int x :: st) σ = Rx E d 289 584 [l0, l1, l2, l3, l4, ldrop l5, some (.int x), l7, l8, l9] st σ) ∧
  (∀ (E : sV) (d : Nat) (l0 : Option Value) (l1 : Option Value) (l3 : Option Value) (l4 : Option Value) (l5 : Option Value) (l6 : Option Value) (l7 : Option Value) (l8 : Option Value) (l9 : Option Value) (x : Nat) (st : List Value) (σ : sS), Rx E d 289 584 [l0, l1, some (.ref x), l3, l4, l5, l6, l7, l8, l9] st σ = Rx E d 289 585 [l0, l1, some (.ref x), l3, l4, l5, l6, l7, l8, l9] (.ref x :: st) σ) ∧
  (∀ (E : sV) (d : Nat) (l0 : Option Value) (l1 : Option Value) (l3 : Option Value) (l4 : Option Value) (l5 : Option Value) (l6 : Option Value) (l7 : Option Value) (l8 : Option Value) (l9 : Option Value) (st : List Value) (σ : sS), Rx E d 289 584 [l0, l1, some (.null), l3, l4, l5, l6, l7, l8, l9] st σ = Rx E d 289 585 [l0, l1, some (.null), l3, l4, l5, l6, l7, l8, l9] (.null :: st) σ) ∧
  (∀ (E : sV) (d : Nat) (l1 : Option Value) (l2 : Option Value) (l3 : Option Value) (l4 : Option Value) (l5 : Option Value) (l6 : Option Value) (l7 : Option Value) (l8 : Option Value) (l9 : Option Value) (x : Nat) (st : List Value) (σ : sS), Rx E d 289 585 [some (.ref x), l1, l2, l3, l4, l5, l6, l7, l8, l9] st σ = Rx E d 289 586 [some (.ref x), l1, l2, l3, l4, l5, l6, l7, l8, l9] (.ref x :: st) σ) ∧
  (∀ (E : sV) (d : Nat) (l1 : Option Value) (l2 : Option Value) (l3 : Option Value) (l4 : Option Value) (l5 : Option Value) (l6 : Option Value) (l7 : Option Value) (l8 : Option Value) (l9 : Option Value) (st : List Value) (σ : sS), Rx E d 289 585 [some (.null), l1, l2, l3, l4, l5, l6, l7, l8, l9] st σ = Rx E d 289 586 [some (.null), l1, l2, l3, l4, l5, l6, l7, l8, l9] (.null :: st) σ) ∧
  (∀ (E : sV) (d : Nat) (l0 : Option Value) (l1 : Option Value) (l2 : Option Value) (l3 : Option Value) (l4 : Option Value) (l6 : Option Value) (l7 : Option Value) (l8 : Option Value) (l9 : Option Value) (x : Int32) (st : List Value) (σ : sS), Rx E d 289 586 [l0, l1, l2, l3, l4, some (.int x), l6, l7, l8, l9] st σ = Rx E d 289 588 [l0, l1, l2, l3, l4, some (.int x), l6, l7, l8, l9] (.int x :: st) σ) ∧
  (∀ (E : sV) (d : Nat) (l0 l1 l2 l3 l4 l5 l6 l7 l8 l9 : Option Value) (st : List Value) (σ : sS), Rx E d 289 588 [l0, l1, l2, l3, l4, l5, l6, l7, l8, l9] st σ = Rx E d 289 589 [l0, l1, l2, l3, l4, l5, l6, l7, l8, l9] (.int (1) :: st) σ) ∧
  (∀ (E : sV) (d : Nat) (l0 l1 l2 l3 l4 l5 l6 l7 l8 l9 : Option Value) (x y : Int32) (st : List Value) (σ : sS), Rx E d 289 589 [l0, l1, l2, l3, l4, l5, l6, l7, l8, l9] (.int y :: .int x :: st) σ = Rx E d 289 590 [l0, l1, l2, l3, l4, l5, l6, l7, l8, l9] (.int (x + y) :: st) σ) ∧
  (∀ (E : sV) (d : Nat) (l0 l1 l2 l3 l4 l5 l6 l7 l8 l9 : Option Value) (i : Int32) (a : Nat) (st : List Value) (σ : sS), Rx E d 289 590 [l0, l1, l2, l3, l4, l5, l6, l7, l8, l9] (.int i :: .ref a :: st) σ = (aldI .int σ.1 a i).bind (fun v => Rx E d 289 591 [l0, l1, l2, l3, l4, l5, l6, l7, l8, l9] (v :: st) σ)) ∧
  (∀ (E : sV) (d : Nat) (l0 l1 l2 l3 l4 l5 l6 l7 l8 l9 : Option Value) (x : Int32) (st : List Value) (σ : sS), Rx E d 289 591 [l0, l1, l2, l3, l4, l5, l6, l7, l8, l9] (.int x :: st) σ = Rx E d 289 592 [l0, l1, l2, l3, l4, l5, l6, l7, l8, l9] (.int (x.toUInt32 % 65536).toInt32 :: st) σ) ∧
  (∀ (E : sV) (d : Nat) (l1 : Option Value) (l2 : Option Value) (l3 : Option Value) (l4 : Option Value) (l5 : Option Value) (l6 : Option Value) (l7 : Option Value) (l8 : Option Value) (l9 : Option Value) (x : Nat) (st : List Value) (σ : sS), Rx E d 289 592 [some (.ref x), l1, l2, l3, l4, l5, l6, l7, l8, l9] st σ = Rx E d 289 593 [some (.ref x), l1, l2, l3, l4, l5, l6, l7, l8, l9] (.ref x :: st) σ) ∧
  (∀ (E : sV) (d : Nat) (l1 : Option Value) (l2 : Option Value) (l3 : Option Value) (l4 : Option Value) (l5 : Option Value) (l6 : Option Value) (l7 : Option Value) (l8 : Option Value) (l9 : Option Value) (st : List Value) (σ : sS), Rx E d 289 592 [some (.null), l1, l2, l3, l4, l5, l6, l7, l8, l9] st σ = Rx E d 289 593 [some (.null), l1, l2, l3, l4, l5, l6, l7, l8, l9] (.null :: st) σ) ∧
  (∀ (E : sV) (d : Nat) (l0 : Option Value) (l1 : Option Value) (l2 : Option Value) (l3 : Option Value) (l4 : Option Value) (l6 : Option Value) (l7 : Option Value) (l8 : Option Value) (l9 : Option Value) (x : Int32) (st : List Value) (σ : sS), Rx E d 289 593 [l0, l1, l2, l3, l4, some (.int x), l6, l7, l8, l9] st σ = Rx E d 289 595 [l0, l1, l2, l3, l4, some (.int x), l6, l7, l8, l9] (.int x :: st) σ) ∧
  (∀ (E : sV) (d : Nat) (l0 l1 l2 l3 l4 l5 l6 l7 l8 l9 : Option Value) (st : List Value) (σ : sS), Rx E d 289 595 [l0, l1, l2, l3, l4, l5, l6, l7, l8, l9] st σ = Rx E d 289 596 [l0, l1, l2, l3, l4, l5, l6, l7, l8, l9] (.int (2) :: st) σ) ∧
  (∀ (E : sV) (d : Nat) (l0 l1 l2 l3 l4 l5 l6 l7 l8 l9 : Option Value) (x y : Int32) (st : List Value) (σ : sS), Rx E d 289 596 [l0, l1, l2, l3, l4, l5, l6, l7, l8, l9] (.int y :: .int x :: st) σ = Rx E d 289 597 [l0, l1, l2, l3, l4, l5, l6, l7, l8, l9] (.int (x + y) :: st) σ) ∧
  (∀ (E : sV) (d : Nat) (l0 l1 l2 l3 l4 l5 l6 l7 l8 l9 : Option Value) (i : Int32) (a : Nat) (st : List Value) (σ : sS), Rx E d 289 597 [l0, l1, l2, l3, l4, l5, l6, l7, l8, l9] (.int i :: .ref a :: st) σ = (aldI .int σ.1 a i).bind (fun v => Rx E d 289 598 [l0, l1, l2, l3, l4, l5, l6, l7, l8, l9] (v :: st) σ)) ∧
  (∀ (E : sV) (d : Nat) (l0 l1 l2 l3 l4 l5 l6 l7 l8 l9 : Option Value) (v1 v2 : Value) (b : Nat) (st : List Value) (σ : sS), Rx E d 289 598 [l0, l1, l2, l3, l4, l5, l6, l7, l8, l9] (v2 :: v1 :: .ref b :: st) σ = if cats st ≤ 8 ∧ isOb σ.1 b 8 = true then callK (Mt E d 150 [.ref b, v1, v2] σ) (fun v σ => Rx E d 289 601 [l0, l1, l2, l3, l4, l5, l6, l7, l8, l9] (v.toList ++ st) σ) else none) ∧
  (∀ (E : sV) (d : Nat) (l0 l1 l2 l3 l4 l5 l6 l7 l8 l9 : Option Value) (x : Int32) (st : List Value) (σ : sS), Rx E d 289 601 [l0, l1, l2, l3, l4, l5, l6, l7, l8, l9] (.int x :: st) σ = Rx E d 289 603 [l0, l1, l2, l3, l4, l5, ldrop l6, some (.int x), l8, l9] st σ) ∧
  (∀ (E : sV) (d : Nat) (l0 : Option Value) (l1 : Option Value) (l3 : Option Value) (l4 : Option Value) (l5 : Option Value) (l6 : Option Value) (l7 : Option Value) (l8 : Option Value) (l9 : Option Value) (x : Nat) (st : List Value) (σ : sS), Rx E d 289 603 [l0, l1, some (.ref x), l3, l4, l5, l6, l7, l8, l9] st σ = Rx E d 289 604 [l0, l1, some (.ref x), l3, l4, l5, l6, l7, l8, l9] (.ref x :: st) σ) ∧
  (∀ (E : sV) (d : Nat) (l0 : Option Value) (l1 : Option Value) (l3 : Option Value) (l4 : Option Value) (l5 : Option Value) (l6 : Option Value) (l7 : Option Value) (l8 : Option Value) (l9 : Option Value) (st : List Value) (σ : sS), Rx E d 289 603 [l0, l1, some (.null), l3, l4, l5, l6, l7, l8, l9] st σ = Rx E d 289 604 [l0, l1, some (.null), l3, l4, l5, l6, l7, l8, l9] (.null :: st) σ) ∧
  (∀ (E : sV) (d : Nat) (l0 l1 l2 l3 l4 l5 l6 l7 l8 l9 : Option Value) (b : Nat) (st : List Value) (σ : sS), Rx E d 289 604 [l0, l1, l2, l3, l4, l5, l6, l7, l8, l9] (.ref b :: st) σ = if cats st ≤ 8 ∧ isOb σ.1 b 8 = true then callK (Mt E d 127 [.ref b] σ) (fun v σ => Rx E d 289 607 [l0, l1, l2, l3, l4, l5, l6, l7, l8, l9] (v.toList ++ st) σ) else none) ∧
  (∀ (E : sV) (d : Nat) (l0 : Option Value) (l1 : Option Value) (l2 : Option Value) (l3 : Option Value) (l4 : Option Value) (l5 : Option Value) (l7 : Option Value) (l8 : Option Value) (l9 : Option Value) (x : Int32) (st : List Value) (σ : sS), Rx E d 289 607 [l0, l1, l2, l3, l4, l5, some (.int x), l7, l8, l9] st σ = Rx E d 289 609 [l0, l1, l2, l3, l4, l5, some (.int x), l7, l8, l9] (.int x :: st) σ) ∧
  (∀ (E : sV) (d : Nat) (l0 l1 l2 l3 l4 l5 l6 l7 l8 l9 : Option Value) (x y : Int32) (st : List Value) (σ : sS), Rx E d 289 609 [l0, l1, l2, l3, l4, l5, l6, l7, l8, l9] (.int y :: .int x :: st) σ = if x = y then Rx E d 289 614 [l0, l1, l2, l3, l4, l5, l6, l7, l8, l9] st σ else Rx E d 289 612 [l0, l1, l2, l3, l4, l5, l6, l7, l8, l9] st σ) ∧
  (∀ (E : sV) (d : Nat) (l0 l1 l2 l3 l4 l5 l6 l7 l8 l9 : Option Value) (st : List Value) (σ : sS), Rx E d 289 612 [l0, l1, l2, l3, l4, l5, l6, l7, l8, l9] st σ = Rx E d 289 613 [l0, l1, l2, l3, l4, l5, l6, l7, l8, l9] (.int (0) :: st) σ) ∧
  (∀ (E : sV) (d : Nat) (l0 l1 l2 l3 l4 l5 l6 l7 l8 l9 : Option Value) (σ : sS), Rx E d 289 613 [l0, l1, l2, l3, l4, l5, l6, l7, l8, l9] [.int 0] σ = some (.inl (some (.int 0)), σ)) ∧
  (∀ (E : sV) (d : Nat) (l0 l1 l2 l3 l4 l5 l6 l7 l8 l9 : Option Value) (σ : sS), Rx E d 289 613 [l0, l1, l2, l3, l4, l5, l6, l7, l8, l9] [.int 1] σ = some (.inl (some (.int 1)), σ)) ∧
  (∀ (E : sV) (d : Nat) (l0 l1 l2 l3 l4 l5 l6 l7 l8 l9 : Option Value) (v : Int32) (σ : sS), Rx E d 289 613 [l0, l1, l2, l3, l4, l5, l6, l7, l8, l9] [.int v] σ = if narrow .boolean (.int v) = .int v then some (.inl (some (.int v)), σ) else none) ∧
  (∀ (E : sV) (d : Nat) (l0 : Option Value) (l1 : Option Value) (l2 : Option Value) (l3 : Option Value) (l4 : Option Value) (l5 : Option Value) (l7 : Option Value) (l8 : Option Value) (l9 : Option Value) (x : Int32) (st : List Value) (σ : sS), Rx E d 289 614 [l0, l1, l2, l3, l4, l5, some (.int x), l7, l8, l9] st σ = Rx E d 289 616 [l0, l1, l2, l3, l4, l5, some (.int x), l7, l8, l9] (.int x :: st) σ) := ⟨fun _ _ _ _ _ _ _ _ _ _ _ _ _ => Rx_of gMT_289 d289_578 rfl,
  fun _ _ _ _ _ _ _ _ _ _ _ _ _ _ _ _ _ _ => Rx_callS gMT_289 d289_579 rfl rfl rfl rfl rfl,
  fun _ _ _ _ _ _ _ _ _ _ _ _ _ _ _ => Rx_of gMT_289 d289_582 rfl,
  fun _ _ _ _ _ _ _ _ _ _ _ _ _ _ => Rx_of gMT_289 d289_584 rfl,
  fun _ _ _ _ _ _ _ _ _ _ _ _ _ => Rx_of gMT_289 d289_584 rfl,
  fun _ _ _ _ _ _ _ _ _ _ _ _ _ _ => Rx_of gMT_289 d289_585 rfl,
  fun _ _ _ _ _ _ _ _ _ _ _ _ _ => Rx_of gMT_289 d289_585 rfl,
  fun _ _ _ _ _ _ _ _ _ _ _ _ _ _ => Rx_of gMT_289 d289_586 rfl,
  fun _ _ _ _ _ _ _ _ _ _ _ _ _ _ => Rx_of gMT_289 d289_588 rfl,
  fun _ _ _ _ _ _ _ _ _ _ _ _ _ _ _ _ => Rx_of gMT_289 d289_589 rfl,
  fun _ _ _ _ _ _ _ _ _ _ _ _ _ _ _ _ => Rx_ald gMT_289 d289_590 rfl rfl,
  fun _ _ _ _ _ _ _ _ _ _ _ _ _ _ _ => Rx_of gMT_289 d289_591 rfl,
  fun _ _ _ _ _ _ _ _ _ _ _ _ _ _ => Rx_of gMT_289 d289_592 rfl,
  fun _ _ _ _ _ _ _ _ _ _ _ _ _ => Rx_of gMT_289 d289_592 rfl,
  fun _ _ _ _ _ _ _ _ _ _ _ _ _ _ => Rx_of gMT_289 d289_593 rfl,
  fun _ _ _ _ _ _ _ _ _ _ _ _ _ _ => Rx_of gMT_289 d289_595 rfl,
  fun _ _ _ _ _ _ _ _ _ _ _ _ _ _ _ _ => Rx_of gMT_289 d289_596 rfl,
  fun _ _ _ _ _ _ _ _ _ _ _ _ _ _ _ _ => Rx_ald gMT_289 d289_597 rfl rfl,
  fun _ _ _ _ _ _ _ _ _ _ _ _ _ _ _ _ _ => Rx_callV gMT_289 d289_598 rfl rfl rfl rfl rfl,
  fun _ _ _ _ _ _ _ _ _ _ _ _ _ _ _ => Rx_of gMT_289 d289_601 rfl,
  fun _ _ _ _ _ _ _ _ _ _ _ _ _ _ => Rx_of gMT_289 d289_603 rfl,
  fun _ _ _ _ _ _ _ _ _ _ _ _ _ => Rx_of gMT_289 d289_603 rfl,
  fun _ _ _ _ _ _ _ _ _ _ _ _ _ _ _ => Rx_callV gMT_289 d289_604 rfl rfl rfl rfl rfl,
  fun _ _ _ _ _ _ _ _ _ _ _ _ _ _ => Rx_of gMT_289 d289_607 rfl,
  fun _ _ _ _ _ _ _ _ _ _ _ _ _ _ _ _ => Rx_icmp gMT_289 d289_609 rfl rfl (by decide),
  fun _ _ _ _ _ _ _ _ _ _ _ _ _ _ => Rx_of gMT_289 d289_612 rfl,
  fun _ _ _ _ _ _ _ _ _ _ _ _ _ => (Rx_iret gMT_289 d289_613 rfl rfl).trans (if_pos rfl),
  fun _ _ _ _ _ _ _ _ _ _ _ _ _ => (Rx_iret gMT_289 d289_613 rfl rfl).trans (if_pos rfl),
  fun _ _ _ _ _ _ _ _ _ _ _ _ _ _ => Rx_iret gMT_289 d289_613 rfl rfl,
  fun _ _ _ _ _ _ _ _ _ _ _ _ _ _ => Rx_of gMT_289 d289_614 rfl⟩
theorem QLaw_law_13 : (∀ (E : sV) (d : Nat) (l0 l1 l2 l3 l4 l5 l6 l7 l8 l9 : Option Value) (x : Int32) (st : List Value) (σ : sS), Rx E d 289 616 [l0, l1, l2, l3, l4, l5, l6, l7, l8, l9] (.int x :: st) σ = if ¬ x = 0 then Rx E d 289 631 [l0, l1, l2, l3, l4, l5, l6, l7, l8, l9] st σ else Rx E d 289 619 [l0, l1, l2, l3, l4, l5, l6, l7, l8, l9] st σ) ∧
  (∀ (E : sV) (d : Nat) (l0 : Option Value) (l1 : Option Value) (l2 : Option Value) (l4 : Option Value) (l5 : Option Value) (l6 : Option Value) (l7 : Option Value) (l8 : Option Value) (l9 : Option Value) (x : Nat) (st : List Value) (σ : sS), Rx E d 289 619 [l0, l1, l2, some (.ref x), l4, l5, l6, l7, l8, l9] st σ = Rx E d 289 620 [l0, l1, l2, some (.ref x), l4, l5, l6, l7, l8, l9] (.ref x :: st) σ) ∧
  (∀ (E : sV) (d : Nat) (l0 : Option Value) (l1 : Option Value) (l2 : Option Value) (l4 : Option Value) (l5 : Option Value) (l6 : Option Value) (l7 : Option Value) (l8 : Option Value) (l9 : Option Value) (st : List Value) (σ : sS), Rx E d 289 619 [l0, l1, l2, some (.null), l4, l5, l6, l7, l8, l9] st σ = Rx E d 289 620 [l0, l1, l2, some (.null), l4, l5, l6, l7, l8, l9] (.null :: st) σ) ∧
  (∀ (E : sV) (d : Nat) (l0 l1 l2 l3 l4 l5 l6 l7 l8 l9 : Option Value) (st : List Value) (σ : sS), Rx E d 289 620 [l0, l1, l2, l3, l4, l5, l6, l7, l8, l9] st σ = Rx E d 289 621 [l0, l1, l2, l3, l4, l5, l6, l7, l8, l9] (.int (0) :: st) σ) ∧
  (∀ (E : sV) (d : Nat) (l0 l1 l2 l3 l4 l5 l6 l7 l8 l9 : Option Value) (i : Int32) (a : Nat) (st : List Value) (σ : sS), Rx E d 289 621 [l0, l1, l2, l3, l4, l5, l6, l7, l8, l9] (.int i :: .ref a :: st) σ = (aldL σ.1 a i).bind (fun v => Rx E d 289 622 [l0, l1, l2, l3, l4, l5, l6, l7, l8, l9] (v :: st) σ)) ∧
  (∀ (E : sV) (d : Nat) (l0 : Option Value) (l1 : Option Value) (l2 : Option Value) (l3 : Option Value) (l4 : Option Value) (l5 : Option Value) (l6 : Option Value) (l8 : Option Value) (l9 : Option Value) (x : Int32) (st : List Value) (σ : sS), Rx E d 289 622 [l0, l1, l2, l3, l4, l5, l6, some (.int x), l8, l9] st σ = Rx E d 289 624 [l0, l1, l2, l3, l4, l5, l6, some (.int x), l8, l9] (.int x :: st) σ) ∧
  (∀ (E : sV) (d : Nat) (l0 l1 l2 l3 l4 l5 l6 l7 l8 l9 : Option Value) (x : Int32) (st : List Value) (σ : sS), Rx E d 289 624 [l0, l1, l2, l3, l4, l5, l6, l7, l8, l9] (.int x :: st) σ = Rx E d 289 625 [l0, l1, l2, l3, l4, l5, l6, l7, l8, l9] (.long x.toInt64 :: st) σ) ∧
  (∀ (E : sV) (d : Nat) (l0 l1 l2 l3 l4 l5 l6 l7 l8 l9 : Option Value) (x y : Int64) (st : List Value) (σ : sS), Rx E d 289 625 [l0, l1, l2, l3, l4, l5, l6, l7, l8, l9] (.long y :: .long x :: st) σ = Rx E d 289 626 [l0, l1, l2, l3, l4, l5, l6, l7, l8, l9] (.int (lg_cmp x y) :: st) σ) ∧
  (∀ (E : sV) (d : Nat) (l0 l1 l2 l3 l4 l5 l6 l7 l8 l9 : Option Value) (x : Int32) (st : List Value) (σ : sS), Rx E d 289 626 [l0, l1, l2, l3, l4, l5, l6, l7, l8, l9] (.int x :: st) σ = if x = 0 then Rx E d 289 631 [l0, l1, l2, l3, l4, l5, l6, l7, l8, l9] st σ else Rx E d 289 629 [l0, l1, l2, l3, l4, l5, l6, l7, l8, l9] st σ) ∧
  (∀ (E : sV) (d : Nat) (l0 l1 l2 l3 l4 l5 l6 l7 l8 l9 : Option Value) (st : List Value) (σ : sS), Rx E d 289 629 [l0, l1, l2, l3, l4, l5, l6, l7, l8, l9] st σ = Rx E d 289 630 [l0, l1, l2, l3, l4, l5, l6, l7, l8, l9] (.int (0) :: st) σ) ∧
  (∀ (E : sV) (d : Nat) (l0 l1 l2 l3 l4 l5 l6 l7 l8 l9 : Option Value) (σ : sS), Rx E d 289 630 [l0, l1, l2, l3, l4, l5, l6, l7, l8, l9] [.int 0] σ = some (.inl (some (.int 0)), σ)) ∧
  (∀ (E : sV) (d : Nat) (l0 l1 l2 l3 l4 l5 l6 l7 l8 l9 : Option Value) (σ : sS), Rx E d 289 630 [l0, l1, l2, l3, l4, l5, l6, l7, l8, l9] [.int 1] σ = some (.inl (some (.int 1)), σ)) ∧
  (∀ (E : sV) (d : Nat) (l0 l1 l2 l3 l4 l5 l6 l7 l8 l9 : Option Value) (v : Int32) (σ : sS), Rx E d 289 630 [l0, l1, l2, l3, l4, l5, l6, l7, l8, l9] [.int v] σ = if narrow .boolean (.int v) = .int v then some (.inl (some (.int v)), σ) else none) ∧
  (∀ (E : sV) (d : Nat) (l0 l1 l2 l3 l4 l5 l6 l7 l8 l9 : Option Value) (st : List Value) (σ : sS), Rx E d 289 631 [l0, l1, l2, l3, l4, l5, l6, l7, l8, l9] st σ = Rx E d 289 3001 [l0, l1, l2, l3, l4, l5, l6, l7, l8, l9] st σ) ∧
  (∀ (E : sV) (d : Nat) (l0 : Option Value) (l2 : Option Value) (l3 : Option Value) (l4 : Option Value) (l5 : Option Value) (l6 : Option Value) (l7 : Option Value) (l8 : Option Value) (l9 : Option Value) (x : Nat) (st : List Value) (σ : sS), Rx E d 289 634 [l0, some (.ref x), l2, l3, l4, l5, l6, l7, l8, l9] st σ = Rx E d 289 635 [l0, some (.ref x), l2, l3, l4, l5, l6, l7, l8, l9] (.ref x :: st) σ) ∧
  (∀ (E : sV) (d : Nat) (l0 : Option Value) (l2 : Option Value) (l3 : Option Value) (l4 : Option Value) (l5 : Option Value) (l6 : Option Value) (l7 : Option Value) (l8 : Option Value) (l9 : Option Value) (st : List Value) (σ : sS), Rx E d 289 634 [l0, some (.null), l2, l3, l4, l5, l6, l7, l8, l9] st σ = Rx E d 289 635 [l0, some (.null), l2, l3, l4, l5, l6, l7, l8, l9] (.null :: st) σ) ∧
  (∀ (E : sV) (d : Nat) (l1 : Option Value) (l2 : Option Value) (l3 : Option Value) (l4 : Option Value) (l5 : Option Value) (l6 : Option Value) (l7 : Option Value) (l8 : Option Value) (l9 : Option Value) (x : Nat) (st : List Value) (σ : sS), Rx E d 289 635 [some (.ref x), l1, l2, l3, l4, l5, l6, l7, l8, l9] st σ = Rx E d 289 636 [some (.ref x), l1, l2, l3, l4, l5, l6, l7, l8, l9] (.ref x :: st) σ) ∧
  (∀ (E : sV) (d : Nat) (l1 : Option Value) (l2 : Option Value) (l3 : Option Value) (l4 : Option Value) (l5 : Option Value) (l6 : Option Value) (l7 : Option Value) (l8 : Option Value) (l9 : Option Value) (st : List Value) (σ : sS), Rx E d 289 635 [some (.null), l1, l2, l3, l4, l5, l6, l7, l8, l9] st σ = Rx E d 289 636 [some (.null), l1, l2, l3, l4, l5, l6, l7, l8, l9] (.null :: st) σ) ∧
  (∀ (E : sV) (d : Nat) (l0 : Option Value) (l1 : Option Value) (l2 : Option Value) (l3 : Option Value) (l4 : Option Value) (l6 : Option Value) (l7 : Option Value) (l8 : Option Value) (l9 : Option Value) (x : Int32) (st : List Value) (σ : sS), Rx E d 289 636 [l0, l1, l2, l3, l4, some (.int x), l6, l7, l8, l9] st σ = Rx E d 289 638 [l0, l1, l2, l3, l4, some (.int x), l6, l7, l8, l9] (.int x :: st) σ) ∧
  (∀ (E : sV) (d : Nat) (l0 l1 l2 l3 l4 l5 l6 l7 l8 l9 : Option Value) (st : List Value) (σ : sS), Rx E d 289 638 [l0, l1, l2, l3, l4, l5, l6, l7, l8, l9] st σ = Rx E d 289 639 [l0, l1, l2, l3, l4, l5, l6, l7, l8, l9] (.int (1) :: st) σ) ∧
  (∀ (E : sV) (d : Nat) (l0 l1 l2 l3 l4 l5 l6 l7 l8 l9 : Option Value) (x y : Int32) (st : List Value) (σ : sS), Rx E d 289 639 [l0, l1, l2, l3, l4, l5, l6, l7, l8, l9] (.int y :: .int x :: st) σ = Rx E d 289 640 [l0, l1, l2, l3, l4, l5, l6, l7, l8, l9] (.int (x + y) :: st) σ) ∧
  (∀ (E : sV) (d : Nat) (l0 l1 l2 l3 l4 l5 l6 l7 l8 l9 : Option Value) (i : Int32) (a : Nat) (st : List Value) (σ : sS), Rx E d 289 640 [l0, l1, l2, l3, l4, l5, l6, l7, l8, l9] (.int i :: .ref a :: st) σ = (aldI .int σ.1 a i).bind (fun v => Rx E d 289 641 [l0, l1, l2, l3, l4, l5, l6, l7, l8, l9] (v :: st) σ)) ∧
  (∀ (E : sV) (d : Nat) (l1 : Option Value) (l2 : Option Value) (l3 : Option Value) (l4 : Option Value) (l5 : Option Value) (l6 : Option Value) (l7 : Option Value) (l8 : Option Value) (l9 : Option Value) (x : Nat) (st : List Value) (σ : sS), Rx E d 289 641 [some (.ref x), l1, l2, l3, l4, l5, l6, l7, l8, l9] st σ = Rx E d 289 642 [some (.ref x), l1, l2, l3, l4, l5, l6, l7, l8, l9] (.ref x :: st) σ) ∧
  (∀ (E : sV) (d : Nat) (l1 : Option Value) (l2 : Option Value) (l3 : Option Value) (l4 : Option Value) (l5 : Option Value) (l6 : Option Value) (l7 : Option Value) (l8 : Option Value) (l9 : Option Value) (st : List Value) (σ : sS), Rx E d 289 641 [some (.null), l1, l2, l3, l4, l5, l6, l7, l8, l9] st σ = Rx E d 289 642 [some (.null), l1, l2, l3, l4, l5, l6, l7, l8, l9] (.null :: st) σ) ∧
  (∀ (E : sV) (d : Nat) (l0 : Option Value) (l1 : Option Value) (l2 : Option Value) (l3 : Option Value) (l4 : Option Value) (l6 : Option Value) (l7 : Option Value) (l8 : Option Value) (l9 : Option Value) (x : Int32) (st : List Value) (σ : sS), Rx E d 289 642 [l0, l1, l2, l3, l4, some (.int x), l6, l7, l8, l9] st σ = Rx E d 289 644 [l0, l1, l2, l3, l4, some (.int x), l6, l7, l8, l9] (.int x :: st) σ) ∧
  (∀ (E : sV) (d : Nat) (l0 l1 l2 l3 l4 l5 l6 l7 l8 l9 : Option Value) (st : List Value) (σ : sS), Rx E d 289 644 [l0, l1, l2, l3, l4, l5, l6, l7, l8, l9] st σ = Rx E d 289 645 [l0, l1, l2, l3, l4, l5, l6, l7, l8, l9] (.int (2) :: st) σ) ∧
  (∀ (E : sV) (d : Nat) (l0 l1 l2 l3 l4 l5 l6 l7 l8 l9 : Option Value) (x y : Int32) (st : List Value) (σ : sS), Rx E d 289 645 [l0, l1, l2, l3, l4, l5, l6, l7, l8, l9] (.int y :: .int x :: st) σ = Rx E d 289 646 [l0, l1, l2, l3, l4, l5, l6, l7, l8, l9] (.int (x + y) :: st) σ) ∧
  (∀ (E : sV) (d : Nat) (l0 l1 l2 l3 l4 l5 l6 l7 l8 l9 : Option Value) (i : Int32) (a : Nat) (st : List Value) (σ : sS), Rx E d 289 646 [l0, l1, l2, l3, l4, l5, l6, l7, l8, l9] (.int i :: .ref a :: st) σ = (aldI .int σ.1 a i).bind (fun v => Rx E d 289 647 [l0, l1, l2, l3, l4, l5, l6, l7, l8, l9] (v :: st) σ)) ∧
  (∀ (E : sV) (d : Nat) (l0 l1 l2 l3 l4 l5 l6 l7 l8 l9 : Option Value) (x : Int32) (st : List Value) (σ : sS), Rx E d 289 647 [l0, l1, l2, l3, l4, l5, l6, l7, l8, l9] (.int x :: st) σ = Rx E d 289 648 [l0, l1, l2, l3, l4, l5, l6, l7, l8, l9] (.int (x.toUInt32 % 65536).toInt32 :: st) σ) ∧
  (∀ (E : sV) (d : Nat) (l1 : Option Value) (l2 : Option Value) (l3 : Option Value) (l4 : Option Value) (l5 : Option Value) (l6 : Option Value) (l7 : Option Value) (l8 : Option Value) (l9 : Option Value) (x : Nat) (st : List Value) (σ : sS), Rx E d 289 648 [some (.ref x), l1, l2, l3, l4, l5, l6, l7, l8, l9] st σ = Rx E d 289 649 [some (.ref x), l1, l2, l3, l4, l5, l6, l7, l8, l9] (.ref x :: st) σ) := ⟨fun _ _ _ _ _ _ _ _ _ _ _ _ _ _ _ => Rx_if gMT_289 d289_616 rfl rfl (by decide),
  fun _ _ _ _ _ _ _ _ _ _ _ _ _ _ => Rx_of gMT_289 d289_619 rfl,
  fun _ _ _ _ _ _ _ _ _ _ _ _ _ => Rx_of gMT_289 d289_619 rfl,
  fun _ _ _ _ _ _ _ _ _ _ _ _ _ _ => Rx_of gMT_289 d289_620 rfl,
  fun _ _ _ _ _ _ _ _ _ _ _ _ _ _ _ _ => Rx_ald gMT_289 d289_621 rfl rfl,
  fun _ _ _ _ _ _ _ _ _ _ _ _ _ _ => Rx_of gMT_289 d289_622 rfl,
  fun _ _ _ _ _ _ _ _ _ _ _ _ _ _ _ => Rx_of gMT_289 d289_624 rfl,
  fun _ _ _ _ _ _ _ _ _ _ _ _ _ _ _ _ => Rx_of gMT_289 d289_625 rfl,
  fun _ _ _ _ _ _ _ _ _ _ _ _ _ _ _ => Rx_if gMT_289 d289_626 rfl rfl (by decide),
  fun _ _ _ _ _ _ _ _ _ _ _ _ _ _ => Rx_of gMT_289 d289_629 rfl,
  fun _ _ _ _ _ _ _ _ _ _ _ _ _ => (Rx_iret gMT_289 d289_630 rfl rfl).trans (if_pos rfl),
  fun _ _ _ _ _ _ _ _ _ _ _ _ _ => (Rx_iret gMT_289 d289_630 rfl rfl).trans (if_pos rfl),
  fun _ _ _ _ _ _ _ _ _ _ _ _ _ _ => Rx_iret gMT_289 d289_630 rfl rfl,
  fun _ _ _ _ _ _ _ _ _ _ _ _ _ _ => Rx_goto gMT_289 d289_631 rfl (by decide),
  fun _ _ _ _ _ _ _ _ _ _ _ _ _ _ => Rx_of gMT_289 d289_634 rfl,
  fun _ _ _ _ _ _ _ _ _ _ _ _ _ => Rx_of gMT_289 d289_634 rfl,
  fun _ _ _ _ _ _ _ _ _ _ _ _ _ _ => Rx_of gMT_289 d289_635 rfl,
  fun _ _ _ _ _ _ _ _ _ _ _ _ _ => Rx_of gMT_289 d289_635 rfl,
  fun _ _ _ _ _ _ _ _ _ _ _ _ _ _ => Rx_of gMT_289 d289_636 rfl,
  fun _ _ _ _ _ _ _ _ _ _ _ _ _ _ => Rx_of gMT_289 d289_638 rfl,
  fun _ _ _ _ _ _ _ _ _ _ _ _ _ _ _ _ => Rx_of gMT_289 d289_639 rfl,
  fun _ _ _ _ _ _ _ _ _ _ _ _ _ _ _ _ => Rx_ald gMT_289 d289_640 rfl rfl,
  fun _ _ _ _ _ _ _ _ _ _ _ _ _ _ => Rx_of gMT_289 d289_641 rfl,
  fun _ _ _ _ _ _ _ _ _ _ _ _ _ => Rx_of gMT_289 d289_641 rfl,
  fun _ _ _ _ _ _ _ _ _ _ _ _ _ _ => Rx_of gMT_289 d289_642 rfl,
  fun _ _ _ _ _ _ _ _ _ _ _ _ _ _ => Rx_of gMT_289 d289_644 rfl,
  fun _ _ _ _ _ _ _ _ _ _ _ _ _ _ _ _ => Rx_of gMT_289 d289_645 rfl,
  fun _ _ _ _ _ _ _ _ _ _ _ _ _ _ _ _ => Rx_ald gMT_289 d289_646 rfl rfl,
  fun _ _ _ _ _ _ _ _ _ _ _ _ _ _ _ => Rx_of gMT_289 d289_647 rfl,
  fun _ _ _ _ _ _ _ _ _ _ _ _ _ _ => Rx_of gMT_289 d289_648 rfl⟩
theorem QLaw_law_14 : (∀ (E : sV) (d : Nat) (l1 : Option Value) (l2 : Option Value) (l3 : Option Value) (l4 : Option Value) (l5 : Option Value) (l6 : Option Value) (l7 : Option Value) (l8 : Option Value) (l9 : Option Value) (st : List Value) (σ : sS), Rx E d 289 648 [some (.null), l1, l2, l3, l4, l5, l6, l7, l8, l9] st σ = Rx E d 289 649 [some (.null), l1, l2, l3, l4, l5, l6, l7, l8, l9] (.null :: st) σ) ∧
  (∀ (E : sV) (d : Nat) (l0 : Option Value) (l1 : Option Value) (l2 : Option Value) (l3 : Option Value) (l4 : Option Value) (l6 : Option Value) (l7 : Option Value) (l8 : Option Value) (l9 : Option Value) (x : Int32) (st : List Value) (σ : sS), Rx E d 289 649 [l0, l1, l2, l3, l4, some (.int x), l6, l7, l8, l9] st σ = Rx E d 289 651 [l0, l1, l2, l3, l4, some (.int x), l6, l7, l8, l9] (.int x :: st) σ) ∧
  (∀ (E : sV) (d : Nat) (l0 l1 l2 l3 l4 l5 l6 l7 l8 l9 : Option Value) (st : List Value) (σ : sS), Rx E d 289 651 [l0, l1, l2, l3, l4, l5, l6, l7, l8, l9] st σ = Rx E d 289 652 [l0, l1, l2, l3, l4, l5, l6, l7, l8, l9] (.int (3) :: st) σ) ∧
  (∀ (E : sV) (d : Nat) (l0 l1 l2 l3 l4 l5 l6 l7 l8 l9 : Option Value) (x y : Int32) (st : List Value) (σ : sS), Rx E d 289 652 [l0, l1, l2, l3, l4, l5, l6, l7, l8, l9] (.int y :: .int x :: st) σ = Rx E d 289 653 [l0, l1, l2, l3, l4, l5, l6, l7, l8, l9] (.int (x + y) :: st) σ) ∧
  (∀ (E : sV) (d : Nat) (l0 l1 l2 l3 l4 l5 l6 l7 l8 l9 : Option Value) (i : Int32) (a : Nat) (st : List Value) (σ : sS), Rx E d 289 653 [l0, l1, l2, l3, l4, l5, l6, l7, l8, l9] (.int i :: .ref a :: st) σ = (aldI .int σ.1 a i).bind (fun v => Rx E d 289 654 [l0, l1, l2, l3, l4, l5, l6, l7, l8, l9] (v :: st) σ)) ∧
  (∀ (E : sV) (d : Nat) (l0 : Option Value) (l1 : Option Value) (l2 : Option Value) (l4 : Option Value) (l5 : Option Value) (l6 : Option Value) (l7 : Option Value) (l8 : Option Value) (l9 : Option Value) (x : Nat) (st : List Value) (σ : sS), Rx E d 289 654 [l0, l1, l2, some (.ref x), l4, l5, l6, l7, l8, l9] st σ = Rx E d 289 655 [l0, l1, l2, some (.ref x), l4, l5, l6, l7, l8, l9] (.ref x :: st) σ) ∧
  (∀ (E : sV) (d : Nat) (l0 : Option Value) (l1 : Option Value) (l2 : Option Value) (l4 : Option Value) (l5 : Option Value) (l6 : Option Value) (l7 : Option Value) (l8 : Option Value) (l9 : Option Value) (st : List Value) (σ : sS), Rx E d 289 654 [l0, l1, l2, some (.null), l4, l5, l6, l7, l8, l9] st σ = Rx E d 289 655 [l0, l1, l2, some (.null), l4, l5, l6, l7, l8, l9] (.null :: st) σ) ∧
  (∀ (E : sV) (d : Nat) (l0 l1 l2 l3 l4 l5 l6 l7 l8 l9 : Option Value) (v1 v2 v3 v4 v5 : Value) (st : List Value) (σ : sS), Rx E d 289 655 [l0, l1, l2, l3, l4, l5, l6, l7, l8, l9] (v5 :: v4 :: v3 :: v2 :: v1 :: st) σ = if cats st ≤ 8 then callK (Mt E d 251 [v1, v2, v3, v4, v5] σ) (fun v σ => Rx E d 289 658 [l0, l1, l2, l3, l4, l5, l6, l7, l8, l9] (v.toList ++ st) σ) else none) ∧
  (∀ (E : sV) (d : Nat) (l0 l1 l2 l3 l4 l5 l6 l7 l8 l9 : Option Value) (x : Int32) (st : List Value) (σ : sS), Rx E d 289 658 [l0, l1, l2, l3, l4, l5, l6, l7, l8, l9] (.int x :: st) σ = Rx E d 289 660 [l0, l1, l2, l3, l4, ldrop l5, some (.int x), l7, l8, l9] st σ) ∧
  (∀ (E : sV) (d : Nat) (l0 : Option Value) (l1 : Option Value) (l3 : Option Value) (l4 : Option Value) (l5 : Option Value) (l6 : Option Value) (l7 : Option Value) (l8 : Option Value) (l9 : Option Value) (x : Nat) (st : List Value) (σ : sS), Rx E d 289 660 [l0, l1, some (.ref x), l3, l4, l5, l6, l7, l8, l9] st σ = Rx E d 289 661 [l0, l1, some (.ref x), l3, l4, l5, l6, l7, l8, l9] (.ref x :: st) σ) ∧
  (∀ (E : sV) (d : Nat) (l0 : Option Value) (l1 : Option Value) (l3 : Option Value) (l4 : Option Value) (l5 : Option Value) (l6 : Option Value) (l7 : Option Value) (l8 : Option Value) (l9 : Option Value) (st : List Value) (σ : sS), Rx E d 289 660 [l0, l1, some (.null), l3, l4, l5, l6, l7, l8, l9] st σ = Rx E d 289 661 [l0, l1, some (.null), l3, l4, l5, l6, l7, l8, l9] (.null :: st) σ) ∧
  (∀ (E : sV) (d : Nat) (l1 : Option Value) (l2 : Option Value) (l3 : Option Value) (l4 : Option Value) (l5 : Option Value) (l6 : Option Value) (l7 : Option Value) (l8 : Option Value) (l9 : Option Value) (x : Nat) (st : List Value) (σ : sS), Rx E d 289 661 [some (.ref x), l1, l2, l3, l4, l5, l6, l7, l8, l9] st σ = Rx E d 289 662 [some (.ref x), l1, l2, l3, l4, l5, l6, l7, l8, l9] (.ref x :: st) σ) ∧
  (∀ (E : sV) (d : Nat) (l1 : Option Value) (l2 : Option Value) (l3 : Option Value) (l4 : Option Value) (l5 : Option Value) (l6 : Option Value) (l7 : Option Value) (l8 : Option Value) (l9 : Option Value) (st : List Value) (σ : sS), Rx E d 289 661 [some (.null), l1, l2, l3, l4, l5, l6, l7, l8, l9] st σ = Rx E d 289 662 [some (.null), l1, l2, l3, l4, l5, l6, l7, l8, l9] (.null :: st) σ) ∧
  (∀ (E : sV) (d : Nat) (l0 : Option Value) (l1 : Option Value) (l2 : Option Value) (l3 : Option Value) (l4 : Option Value) (l6 : Option Value) (l7 : Option Value) (l8 : Option Value) (l9 : Option Value) (x : Int32) (st : List Value) (σ : sS), Rx E d 289 662 [l0, l1, l2, l3, l4, some (.int x), l6, l7, l8, l9] st σ = Rx E d 289 664 [l0, l1, l2, l3, l4, some (.int x), l6, l7, l8, l9] (.int x :: st) σ) ∧
  (∀ (E : sV) (d : Nat) (l0 l1 l2 l3 l4 l5 l6 l7 l8 l9 : Option Value) (st : List Value) (σ : sS), Rx E d 289 664 [l0, l1, l2, l3, l4, l5, l6, l7, l8, l9] st σ = Rx E d 289 665 [l0, l1, l2, l3, l4, l5, l6, l7, l8, l9] (.int (1) :: st) σ) ∧
  (∀ (E : sV) (d : Nat) (l0 l1 l2 l3 l4 l5 l6 l7 l8 l9 : Option Value) (x y : Int32) (st : List Value) (σ : sS), Rx E d 289 665 [l0, l1, l2, l3, l4, l5, l6, l7, l8, l9] (.int y :: .int x :: st) σ = Rx E d 289 666 [l0, l1, l2, l3, l4, l5, l6, l7, l8, l9] (.int (x + y) :: st) σ) ∧
  (∀ (E : sV) (d : Nat) (l0 l1 l2 l3 l4 l5 l6 l7 l8 l9 : Option Value) (i : Int32) (a : Nat) (st : List Value) (σ : sS), Rx E d 289 666 [l0, l1, l2, l3, l4, l5, l6, l7, l8, l9] (.int i :: .ref a :: st) σ = (aldI .int σ.1 a i).bind (fun v => Rx E d 289 667 [l0, l1, l2, l3, l4, l5, l6, l7, l8, l9] (v :: st) σ)) ∧
  (∀ (E : sV) (d : Nat) (l1 : Option Value) (l2 : Option Value) (l3 : Option Value) (l4 : Option Value) (l5 : Option Value) (l6 : Option Value) (l7 : Option Value) (l8 : Option Value) (l9 : Option Value) (x : Nat) (st : List Value) (σ : sS), Rx E d 289 667 [some (.ref x), l1, l2, l3, l4, l5, l6, l7, l8, l9] st σ = Rx E d 289 668 [some (.ref x), l1, l2, l3, l4, l5, l6, l7, l8, l9] (.ref x :: st) σ) ∧
  (∀ (E : sV) (d : Nat) (l1 : Option Value) (l2 : Option Value) (l3 : Option Value) (l4 : Option Value) (l5 : Option Value) (l6 : Option Value) (l7 : Option Value) (l8 : Option Value) (l9 : Option Value) (st : List Value) (σ : sS), Rx E d 289 667 [some (.null), l1, l2, l3, l4, l5, l6, l7, l8, l9] st σ = Rx E d 289 668 [some (.null), l1, l2, l3, l4, l5, l6, l7, l8, l9] (.null :: st) σ) ∧
  (∀ (E : sV) (d : Nat) (l0 : Option Value) (l1 : Option Value) (l2 : Option Value) (l3 : Option Value) (l4 : Option Value) (l6 : Option Value) (l7 : Option Value) (l8 : Option Value) (l9 : Option Value) (x : Int32) (st : List Value) (σ : sS), Rx E d 289 668 [l0, l1, l2, l3, l4, some (.int x), l6, l7, l8, l9] st σ = Rx E d 289 670 [l0, l1, l2, l3, l4, some (.int x), l6, l7, l8, l9] (.int x :: st) σ) ∧
  (∀ (E : sV) (d : Nat) (l0 l1 l2 l3 l4 l5 l6 l7 l8 l9 : Option Value) (st : List Value) (σ : sS), Rx E d 289 670 [l0, l1, l2, l3, l4, l5, l6, l7, l8, l9] st σ = Rx E d 289 671 [l0, l1, l2, l3, l4, l5, l6, l7, l8, l9] (.int (2) :: st) σ) ∧
  (∀ (E : sV) (d : Nat) (l0 l1 l2 l3 l4 l5 l6 l7 l8 l9 : Option Value) (x y : Int32) (st : List Value) (σ : sS), Rx E d 289 671 [l0, l1, l2, l3, l4, l5, l6, l7, l8, l9] (.int y :: .int x :: st) σ = Rx E d 289 672 [l0, l1, l2, l3, l4, l5, l6, l7, l8, l9] (.int (x + y) :: st) σ) ∧
  (∀ (E : sV) (d : Nat) (l0 l1 l2 l3 l4 l5 l6 l7 l8 l9 : Option Value) (i : Int32) (a : Nat) (st : List Value) (σ : sS), Rx E d 289 672 [l0, l1, l2, l3, l4, l5, l6, l7, l8, l9] (.int i :: .ref a :: st) σ = (aldI .int σ.1 a i).bind (fun v => Rx E d 289 673 [l0, l1, l2, l3, l4, l5, l6, l7, l8, l9] (v :: st) σ)) ∧
  (∀ (E : sV) (d : Nat) (l0 l1 l2 l3 l4 l5 l6 l7 l8 l9 : Option Value) (x : Int32) (st : List Value) (σ : sS), Rx E d 289 673 [l0, l1, l2, l3, l4, l5, l6, l7, l8, l9] (.int x :: st) σ = Rx E d 289 674 [l0, l1, l2, l3, l4, l5, l6, l7, l8, l9] (.int (x.toUInt32 % 65536).toInt32 :: st) σ) ∧
  (∀ (E : sV) (d : Nat) (l1 : Option Value) (l2 : Option Value) (l3 : Option Value) (l4 : Option Value) (l5 : Option Value) (l6 : Option Value) (l7 : Option Value) (l8 : Option Value) (l9 : Option Value) (x : Nat) (st : List Value) (σ : sS), Rx E d 289 674 [some (.ref x), l1, l2, l3, l4, l5, l6, l7, l8, l9] st σ = Rx E d 289 675 [some (.ref x), l1, l2, l3, l4, l5, l6, l7, l8, l9] (.ref x :: st) σ) ∧
  (∀ (E : sV) (d : Nat) (l1 : Option Value) (l2 : Option Value) (l3 : Option Value) (l4 : Option Value) (l5 : Option Value) (l6 : Option Value) (l7 : Option Value) (l8 : Option Value) (l9 : Option Value) (st : List Value) (σ : sS), Rx E d 289 674 [some (.null), l1, l2, l3, l4, l5, l6, l7, l8, l9] st σ = Rx E d 289 675 [some (.null), l1, l2, l3, l4, l5, l6, l7, l8, l9] (.null :: st) σ) ∧
  (∀ (E : sV) (d : Nat) (l0 : Option Value) (l1 : Option Value) (l2 : Option Value) (l3 : Option Value) (l4 : Option Value) (l6 : Option Value) (l7 : Option Value) (l8 : Option Value) (l9 : Option Value) (x : Int32) (st : List Value) (σ : sS), Rx E d 289 675 [l0, l1, l2, l3, l4, some (.int x), l6, l7, l8, l9] st σ = Rx E d 289 677 [l0, l1, l2, l3, l4, some (.int x), l6, l7, l8, l9] (.int x :: st) σ) ∧
  (∀ (E : sV) (d : Nat) (l0 l1 l2 l3 l4 l5 l6 l7 l8 l9 : Option Value) (st : List Value) (σ : sS), Rx E d 289 677 [l0, l1, l2, l3, l4, l5, l6, l7, l8, l9] st σ = Rx E d 289 678 [l0, l1, l2, l3, l4, l5, l6, l7, l8, l9] (.int (3) :: st) σ) ∧
  (∀ (E : sV) (d : Nat) (l0 l1 l2 l3 l4 l5 l6 l7 l8 l9 : Option Value) (x y : Int32) (st : List Value) (σ : sS), Rx E d 289 678 [l0, l1, l2, l3, l4, l5, l6, l7, l8, l9] (.int y :: .int x :: st) σ = Rx E d 289 679 [l0, l1, l2, l3, l4, l5, l6, l7, l8, l9] (.int (x + y) :: st) σ) ∧
  (∀ (E : sV) (d : Nat) (l0 l1 l2 l3 l4 l5 l6 l7 l8 l9 : Option Value) (i : Int32) (a : Nat) (st : List Value) (σ : sS), Rx E d 289 679 [l0, l1, l2, l3, l4, l5, l6, l7, l8, l9] (.int i :: .ref a :: st) σ = (aldI .int σ.1 a i).bind (fun v => Rx E d 289 680 [l0, l1, l2, l3, l4, l5, l6, l7, l8, l9] (v :: st) σ)) := ⟨fun _ _ _ _ _ _ _ _ _ _ _ _ _ => Rx_of gMT_289 d289_648 rfl,
  fun _ _ _ _ _ _ _ _ _ _ _ _ _ _ => Rx_of gMT_289 d289_649 rfl,
  fun _ _ _ _ _ _ _ _ _ _ _ _ _ _ => Rx_of gMT_289 d289_651 rfl,
  fun _ _ _ _ _ _ _ _ _ _ _ _ _ _ _ _ => Rx_of gMT_289 d289_652 rfl,
  fun _ _ _ _ _ _ _ _ _ _ _ _ _ _ _ _ => Rx_ald gMT_289 d289_653 rfl rfl,
  fun _ _ _ _ _ _ _ _ _ _ _ _ _ _ => Rx_of gMT_289 d289_654 rfl,
  fun _ _ _ _ _ _ _ _ _ _ _ _ _ => Rx_of gMT_289 d289_654 rfl,
  fun _ _ _ _ _ _ _ _ _ _ _ _ _ _ _ _ _ _ _ => Rx_callS gMT_289 d289_655 rfl rfl rfl rfl rfl,
  fun _ _ _ _ _ _ _ _ _ _ _ _ _ _ _ => Rx_of gMT_289 d289_658 rfl,
  fun _ _ _ _ _ _ _ _ _ _ _ _ _ _ => Rx_of gMT_289 d289_660 rfl,
  fun _ _ _ _ _ _ _ _ _ _ _ _ _ => Rx_of gMT_289 d289_660 rfl,
  fun _ _ _ _ _ _ _ _ _ _ _ _ _ _ => Rx_of gMT_289 d289_661 rfl,
  fun _ _ _ _ _ _ _ _ _ _ _ _ _ => Rx_of gMT_289 d289_661 rfl,
  fun _ _ _ _ _ _ _ _ _ _ _ _ _ _ => Rx_of gMT_289 d289_662 rfl,
  fun _ _ _ _ _ _ _ _ _ _ _ _ _ _ => Rx_of gMT_289 d289_664 rfl,
  fun _ _ _ _ _ _ _ _ _ _ _ _ _ _ _ _ => Rx_of gMT_289 d289_665 rfl,
  fun _ _ _ _ _ _ _ _ _ _ _ _ _ _ _ _ => Rx_ald gMT_289 d289_666 rfl rfl,
  fun _ _ _ _ _ _ _ _ _ _ _ _ _ _ => Rx_of gMT_289 d289_667 rfl,
  fun _ _ _ _ _ _ _ _ _ _ _ _ _ => Rx_of gMT_289 d289_667 rfl,
  fun _ _ _ _ _ _ _ _ _ _ _ _ _ _ => Rx_of gMT_289 d289_668 rfl,
  fun _ _ _ _ _ _ _ _ _ _ _ _ _ _ => Rx_of gMT_289 d289_670 rfl,
  fun _ _ _ _ _ _ _ _ _ _ _ _ _ _ _ _ => Rx_of gMT_289 d289_671 rfl,
  fun _ _ _ _ _ _ _ _ _ _ _ _ _ _ _ _ => Rx_ald gMT_289 d289_672 rfl rfl,
  fun _ _ _ _ _ _ _ _ _ _ _ _ _ _ _ => Rx_of gMT_289 d289_673 rfl,
  fun _ _ _ _ _ _ _ _ _ _ _ _ _ _ => Rx_of gMT_289 d289_674 rfl,
  fun _ _ _ _ _ _ _ _ _ _ _ _ _ => Rx_of gMT_289 d289_674 rfl,
  fun _ _ _ _ _ _ _ _ _ _ _ _ _ _ => Rx_of gMT_289 d289_675 rfl,
  fun _ _ _ _ _ _ _ _ _ _ _ _ _ _ => Rx_of gMT_289 d289_677 rfl,
  fun _ _ _ _ _ _ _ _ _ _ _ _ _ _ _ _ => Rx_of gMT_289 d289_678 rfl,
  fun _ _ _ _ _ _ _ _ _ _ _ _ _ _ _ _ => Rx_ald gMT_289 d289_679 rfl rfl⟩
theorem QLaw_law_15 : (∀ (E : sV) (d : Nat) (l0 l1 l2 l3 l4 l5 l6 l7 l8 l9 : Option Value) (v1 v2 v3 : Value) (b : Nat) (st : List Value) (σ : sS), Rx E d 289 680 [l0, l1, l2, l3, l4, l5, l6, l7, l8, l9] (v3 :: v2 :: v1 :: .ref b :: st) σ = if cats st ≤ 8 ∧ isOb σ.1 b 8 = true then callK (Mt E d 153 [.ref b, v1, v2, v3] σ) (fun v σ => Rx E d 289 683 [l0, l1, l2, l3, l4, l5, l6, l7, l8, l9] (v.toList ++ st) σ) else none) ∧
  (∀ (E : sV) (d : Nat) (l0 l1 l2 l3 l4 l5 l6 l7 l8 l9 : Option Value) (x : Int32) (st : List Value) (σ : sS), Rx E d 289 683 [l0, l1, l2, l3, l4, l5, l6, l7, l8, l9] (.int x :: st) σ = Rx E d 289 685 [l0, l1, l2, l3, l4, l5, ldrop l6, some (.int x), l8, l9] st σ) ∧
  (∀ (E : sV) (d : Nat) (l0 : Option Value) (l1 : Option Value) (l3 : Option Value) (l4 : Option Value) (l5 : Option Value) (l6 : Option Value) (l7 : Option Value) (l8 : Option Value) (l9 : Option Value) (x : Nat) (st : List Value) (σ : sS), Rx E d 289 685 [l0, l1, some (.ref x), l3, l4, l5, l6, l7, l8, l9] st σ = Rx E d 289 686 [l0, l1, some (.ref x), l3, l4, l5, l6, l7, l8, l9] (.ref x :: st) σ) ∧
  (∀ (E : sV) (d : Nat) (l0 : Option Value) (l1 : Option Value) (l3 : Option Value) (l4 : Option Value) (l5 : Option Value) (l6 : Option Value) (l7 : Option Value) (l8 : Option Value) (l9 : Option Value) (st : List Value) (σ : sS), Rx E d 289 685 [l0, l1, some (.null), l3, l4, l5, l6, l7, l8, l9] st σ = Rx E d 289 686 [l0, l1, some (.null), l3, l4, l5, l6, l7, l8, l9] (.null :: st) σ) ∧
  (∀ (E : sV) (d : Nat) (l0 l1 l2 l3 l4 l5 l6 l7 l8 l9 : Option Value) (b : Nat) (st : List Value) (σ : sS), Rx E d 289 686 [l0, l1, l2, l3, l4, l5, l6, l7, l8, l9] (.ref b :: st) σ = if cats st ≤ 8 ∧ isOb σ.1 b 8 = true then callK (Mt E d 127 [.ref b] σ) (fun v σ => Rx E d 289 689 [l0, l1, l2, l3, l4, l5, l6, l7, l8, l9] (v.toList ++ st) σ) else none) ∧
  (∀ (E : sV) (d : Nat) (l0 : Option Value) (l1 : Option Value) (l2 : Option Value) (l3 : Option Value) (l4 : Option Value) (l5 : Option Value) (l7 : Option Value) (l8 : Option Value) (l9 : Option Value) (x : Int32) (st : List Value) (σ : sS), Rx E d 289 689 [l0, l1, l2, l3, l4, l5, some (.int x), l7, l8, l9] st σ = Rx E d 289 691 [l0, l1, l2, l3, l4, l5, some (.int x), l7, l8, l9] (.int x :: st) σ) ∧
  (∀ (E : sV) (d : Nat) (l0 l1 l2 l3 l4 l5 l6 l7 l8 l9 : Option Value) (x y : Int32) (st : List Value) (σ : sS), Rx E d 289 691 [l0, l1, l2, l3, l4, l5, l6, l7, l8, l9] (.int y :: .int x :: st) σ = if x = y then Rx E d 289 696 [l0, l1, l2, l3, l4, l5, l6, l7, l8, l9] st σ else Rx E d 289 694 [l0, l1, l2, l3, l4, l5, l6, l7, l8, l9] st σ) ∧
  (∀ (E : sV) (d : Nat) (l0 l1 l2 l3 l4 l5 l6 l7 l8 l9 : Option Value) (st : List Value) (σ : sS), Rx E d 289 694 [l0, l1, l2, l3, l4, l5, l6, l7, l8, l9] st σ = Rx E d 289 695 [l0, l1, l2, l3, l4, l5, l6, l7, l8, l9] (.int (0) :: st) σ) ∧
  (∀ (E : sV) (d : Nat) (l0 l1 l2 l3 l4 l5 l6 l7 l8 l9 : Option Value) (σ : sS), Rx E d 289 695 [l0, l1, l2, l3, l4, l5, l6, l7, l8, l9] [.int 0] σ = some (.inl (some (.int 0)), σ)) ∧
  (∀ (E : sV) (d : Nat) (l0 l1 l2 l3 l4 l5 l6 l7 l8 l9 : Option Value) (σ : sS), Rx E d 289 695 [l0, l1, l2, l3, l4, l5, l6, l7, l8, l9] [.int 1] σ = some (.inl (some (.int 1)), σ)) ∧
  (∀ (E : sV) (d : Nat) (l0 l1 l2 l3 l4 l5 l6 l7 l8 l9 : Option Value) (v : Int32) (σ : sS), Rx E d 289 695 [l0, l1, l2, l3, l4, l5, l6, l7, l8, l9] [.int v] σ = if narrow .boolean (.int v) = .int v then some (.inl (some (.int v)), σ) else none) ∧
  (∀ (E : sV) (d : Nat) (l0 : Option Value) (l1 : Option Value) (l2 : Option Value) (l3 : Option Value) (l4 : Option Value) (l5 : Option Value) (l7 : Option Value) (l8 : Option Value) (l9 : Option Value) (x : Int32) (st : List Value) (σ : sS), Rx E d 289 696 [l0, l1, l2, l3, l4, l5, some (.int x), l7, l8, l9] st σ = Rx E d 289 698 [l0, l1, l2, l3, l4, l5, some (.int x), l7, l8, l9] (.int x :: st) σ) ∧
  (∀ (E : sV) (d : Nat) (l0 l1 l2 l3 l4 l5 l6 l7 l8 l9 : Option Value) (x : Int32) (st : List Value) (σ : sS), Rx E d 289 698 [l0, l1, l2, l3, l4, l5, l6, l7, l8, l9] (.int x :: st) σ = if ¬ x = 0 then Rx E d 289 713 [l0, l1, l2, l3, l4, l5, l6, l7, l8, l9] st σ else Rx E d 289 701 [l0, l1, l2, l3, l4, l5, l6, l7, l8, l9] st σ) ∧
  (∀ (E : sV) (d : Nat) (l0 : Option Value) (l1 : Option Value) (l2 : Option Value) (l4 : Option Value) (l5 : Option Value) (l6 : Option Value) (l7 : Option Value) (l8 : Option Value) (l9 : Option Value) (x : Nat) (st : List Value) (σ : sS), Rx E d 289 701 [l0, l1, l2, some (.ref x), l4, l5, l6, l7, l8, l9] st σ = Rx E d 289 702 [l0, l1, l2, some (.ref x), l4, l5, l6, l7, l8, l9] (.ref x :: st) σ) ∧
  (∀ (E : sV) (d : Nat) (l0 : Option Value) (l1 : Option Value) (l2 : Option Value) (l4 : Option Value) (l5 : Option Value) (l6 : Option Value) (l7 : Option Value) (l8 : Option Value) (l9 : Option Value) (st : List Value) (σ : sS), Rx E d 289 701 [l0, l1, l2, some (.null), l4, l5, l6, l7, l8, l9] st σ = Rx E d 289 702 [l0, l1, l2, some (.null), l4, l5, l6, l7, l8, l9] (.null :: st) σ) ∧
  (∀ (E : sV) (d : Nat) (l0 l1 l2 l3 l4 l5 l6 l7 l8 l9 : Option Value) (st : List Value) (σ : sS), Rx E d 289 702 [l0, l1, l2, l3, l4, l5, l6, l7, l8, l9] st σ = Rx E d 289 703 [l0, l1, l2, l3, l4, l5, l6, l7, l8, l9] (.int (0) :: st) σ) ∧
  (∀ (E : sV) (d : Nat) (l0 l1 l2 l3 l4 l5 l6 l7 l8 l9 : Option Value) (i : Int32) (a : Nat) (st : List Value) (σ : sS), Rx E d 289 703 [l0, l1, l2, l3, l4, l5, l6, l7, l8, l9] (.int i :: .ref a :: st) σ = (aldL σ.1 a i).bind (fun v => Rx E d 289 704 [l0, l1, l2, l3, l4, l5, l6, l7, l8, l9] (v :: st) σ)) ∧
  (∀ (E : sV) (d : Nat) (l0 : Option Value) (l1 : Option Value) (l2 : Option Value) (l3 : Option Value) (l4 : Option Value) (l5 : Option Value) (l6 : Option Value) (l8 : Option Value) (l9 : Option Value) (x : Int32) (st : List Value) (σ : sS), Rx E d 289 704 [l0, l1, l2, l3, l4, l5, l6, some (.int x), l8, l9] st σ = Rx E d 289 706 [l0, l1, l2, l3, l4, l5, l6, some (.int x), l8, l9] (.int x :: st) σ) ∧
  (∀ (E : sV) (d : Nat) (l0 l1 l2 l3 l4 l5 l6 l7 l8 l9 : Option Value) (x : Int32) (st : List Value) (σ : sS), Rx E d 289 706 [l0, l1, l2, l3, l4, l5, l6, l7, l8, l9] (.int x :: st) σ = Rx E d 289 707 [l0, l1, l2, l3, l4, l5, l6, l7, l8, l9] (.long x.toInt64 :: st) σ) ∧
  (∀ (E : sV) (d : Nat) (l0 l1 l2 l3 l4 l5 l6 l7 l8 l9 : Option Value) (x y : Int64) (st : List Value) (σ : sS), Rx E d 289 707 [l0, l1, l2, l3, l4, l5, l6, l7, l8, l9] (.long y :: .long x :: st) σ = Rx E d 289 708 [l0, l1, l2, l3, l4, l5, l6, l7, l8, l9] (.int (lg_cmp x y) :: st) σ) ∧
  (∀ (E : sV) (d : Nat) (l0 l1 l2 l3 l4 l5 l6 l7 l8 l9 : Option Value) (x : Int32) (st : List Value) (σ : sS), Rx E d 289 708 [l0, l1, l2, l3, l4, l5, l6, l7, l8, l9] (.int x :: st) σ = if x = 0 then Rx E d 289 713 [l0, l1, l2, l3, l4, l5, l6, l7, l8, l9] st σ else Rx E d 289 711 [l0, l1, l2, l3, l4, l5, l6, l7, l8, l9] st σ) ∧
  (∀ (E : sV) (d : Nat) (l0 l1 l2 l3 l4 l5 l6 l7 l8 l9 : Option Value) (st : List Value) (σ : sS), Rx E d 289 711 [l0, l1, l2, l3, l4, l5, l6, l7, l8, l9] st σ = Rx E d 289 712 [l0, l1, l2, l3, l4, l5, l6, l7, l8, l9] (.int (0) :: st) σ) ∧
  (∀ (E : sV) (d : Nat) (l0 l1 l2 l3 l4 l5 l6 l7 l8 l9 : Option Value) (σ : sS), Rx E d 289 712 [l0, l1, l2, l3, l4, l5, l6, l7, l8, l9] [.int 0] σ = some (.inl (some (.int 0)), σ)) ∧
  (∀ (E : sV) (d : Nat) (l0 l1 l2 l3 l4 l5 l6 l7 l8 l9 : Option Value) (σ : sS), Rx E d 289 712 [l0, l1, l2, l3, l4, l5, l6, l7, l8, l9] [.int 1] σ = some (.inl (some (.int 1)), σ)) ∧
  (∀ (E : sV) (d : Nat) (l0 l1 l2 l3 l4 l5 l6 l7 l8 l9 : Option Value) (v : Int32) (σ : sS), Rx E d 289 712 [l0, l1, l2, l3, l4, l5, l6, l7, l8, l9] [.int v] σ = if narrow .boolean (.int v) = .int v then some (.inl (some (.int v)), σ) else none) ∧
  (∀ (E : sV) (d : Nat) (l0 l1 l2 l3 l4 l5 l6 l7 l8 l9 : Option Value) (st : List Value) (σ : sS), Rx E d 289 713 [l0, l1, l2, l3, l4, l5, l6, l7, l8, l9] st σ = Rx E d 289 3001 [l0, l1, l2, l3, l4, l5, l6, l7, l8, l9] st σ) ∧
  (∀ (E : sV) (d : Nat) (l0 : Option Value) (l2 : Option Value) (l3 : Option Value) (l4 : Option Value) (l5 : Option Value) (l6 : Option Value) (l7 : Option Value) (l8 : Option Value) (l9 : Option Value) (x : Nat) (st : List Value) (σ : sS), Rx E d 289 716 [l0, some (.ref x), l2, l3, l4, l5, l6, l7, l8, l9] st σ = Rx E d 289 717 [l0, some (.ref x), l2, l3, l4, l5, l6, l7, l8, l9] (.ref x :: st) σ) ∧
  (∀ (E : sV) (d : Nat) (l0 : Option Value) (l2 : Option Value) (l3 : Option Value) (l4 : Option Value) (l5 : Option Value) (l6 : Option Value) (l7 : Option Value) (l8 : Option Value) (l9 : Option Value) (st : List Value) (σ : sS), Rx E d 289 716 [l0, some (.null), l2, l3, l4, l5, l6, l7, l8, l9] st σ = Rx E d 289 717 [l0, some (.null), l2, l3, l4, l5, l6, l7, l8, l9] (.null :: st) σ) ∧
  (∀ (E : sV) (d : Nat) (l1 : Option Value) (l2 : Option Value) (l3 : Option Value) (l4 : Option Value) (l5 : Option Value) (l6 : Option Value) (l7 : Option Value) (l8 : Option Value) (l9 : Option Value) (x : Nat) (st : List Value) (σ : sS), Rx E d 289 717 [some (.ref x), l1, l2, l3, l4, l5, l6, l7, l8, l9] st σ = Rx E d 289 718 [some (.ref x), l1, l2, l3, l4, l5, l6, l7, l8, l9] (.ref x :: st) σ) ∧
  (∀ (E : sV) (d : Nat) (l1 : Option Value) (l2 : Option Value) (l3 : Option Value) (l4 : Option Value) (l5 : Option Value) (l6 : Option Value) (l7 : Option Value) (l8 : Option Value) (l9 : Option Value) (st : List Value) (σ : sS), Rx E d 289 717 [some (.null), l1, l2, l3, l4, l5, l6, l7, l8, l9] st σ = Rx E d 289 718 [some (.null), l1, l2, l3, l4, l5, l6, l7, l8, l9] (.null :: st) σ) := ⟨fun _ _ _ _ _ _ _ _ _ _ _ _ _ _ _ _ _ _ => Rx_callV gMT_289 d289_680 rfl rfl rfl rfl rfl,
  fun _ _ _ _ _ _ _ _ _ _ _ _ _ _ _ => Rx_of gMT_289 d289_683 rfl,
  fun _ _ _ _ _ _ _ _ _ _ _ _ _ _ => Rx_of gMT_289 d289_685 rfl,
  fun _ _ _ _ _ _ _ _ _ _ _ _ _ => Rx_of gMT_289 d289_685 rfl,
  fun _ _ _ _ _ _ _ _ _ _ _ _ _ _ _ => Rx_callV gMT_289 d289_686 rfl rfl rfl rfl rfl,
  fun _ _ _ _ _ _ _ _ _ _ _ _ _ _ => Rx_of gMT_289 d289_689 rfl,
  fun _ _ _ _ _ _ _ _ _ _ _ _ _ _ _ _ => Rx_icmp gMT_289 d289_691 rfl rfl (by decide),
  fun _ _ _ _ _ _ _ _ _ _ _ _ _ _ => Rx_of gMT_289 d289_694 rfl,
  fun _ _ _ _ _ _ _ _ _ _ _ _ _ => (Rx_iret gMT_289 d289_695 rfl rfl).trans (if_pos rfl),
  fun _ _ _ _ _ _ _ _ _ _ _ _ _ => (Rx_iret gMT_289 d289_695 rfl rfl).trans (if_pos rfl),
  fun _ _ _ _ _ _ _ _ _ _ _ _ _ _ => Rx_iret gMT_289 d289_695 rfl rfl,
  fun _ _ _ _ _ _ _ _ _ _ _ _ _ _ => Rx_of gMT_289 d289_696 rfl,
  fun _ _ _ _ _ _ _ _ _ _ _ _ _ _ _ => Rx_if gMT_289 d289_698 rfl rfl (by decide),
  fun _ _ _ _ _ _ _ _ _ _ _ _ _ _ => Rx_of gMT_289 d289_701 rfl,
  fun _ _ _ _ _ _ _ _ _ _ _ _ _ => Rx_of gMT_289 d289_701 rfl,
  fun _ _ _ _ _ _ _ _ _ _ _ _ _ _ => Rx_of gMT_289 d289_702 rfl,
  fun _ _ _ _ _ _ _ _ _ _ _ _ _ _ _ _ => Rx_ald gMT_289 d289_703 rfl rfl,
  fun _ _ _ _ _ _ _ _ _ _ _ _ _ _ => Rx_of gMT_289 d289_704 rfl,
  fun _ _ _ _ _ _ _ _ _ _ _ _ _ _ _ => Rx_of gMT_289 d289_706 rfl,
  fun _ _ _ _ _ _ _ _ _ _ _ _ _ _ _ _ => Rx_of gMT_289 d289_707 rfl,
  fun _ _ _ _ _ _ _ _ _ _ _ _ _ _ _ => Rx_if gMT_289 d289_708 rfl rfl (by decide),
  fun _ _ _ _ _ _ _ _ _ _ _ _ _ _ => Rx_of gMT_289 d289_711 rfl,
  fun _ _ _ _ _ _ _ _ _ _ _ _ _ => (Rx_iret gMT_289 d289_712 rfl rfl).trans (if_pos rfl),
  fun _ _ _ _ _ _ _ _ _ _ _ _ _ => (Rx_iret gMT_289 d289_712 rfl rfl).trans (if_pos rfl),
  fun _ _ _ _ _ _ _ _ _ _ _ _ _ _ => Rx_iret gMT_289 d289_712 rfl rfl,
  fun _ _ _ _ _ _ _ _ _ _ _ _ _ _ => Rx_goto gMT_289 d289_713 rfl (by decide),
  fun _ _ _ _ _ _ _ _ _ _ _ _ _ _ => Rx_of gMT_289 d289_716 rfl,
  fun _ _ _ _ _ _ _ _ _ _ _ _ _ => Rx_of gMT_289 d289_716 rfl,
  fun _ _ _ _ _ _ _ _ _ _ _ _ _ _ => Rx_of gMT_289 d289_717 rfl,
  fun _ _ _ _ _ _ _ _ _ _ _ _ _ => Rx_of gMT_289 d289_717 rfl⟩
