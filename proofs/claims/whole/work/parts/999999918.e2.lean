/-! what the Statement gives, by its places -/
def en_F : List Cond := flatC (Jvm.Cond.and given_1 narrow_1)
def en_n (k : Nat) : String := ["JOB", "CANCEL", "GIVE", "TAKE", "STOCK", "LOAD", "BORROW", "RETURN", "FIX", "HOME", "REST"].getD k ""
def en_x (k : Nat) : Nat := [4, 250, 254, 259, 265, 272, 280, 289, 299, 310, 322].getD k 0
def en_e (k : Nat) : Nat := [61, 67, 70, 73, 76, 79, 82, 85, 88, 91, 94].getD k 0
def en_y (k : Nat) : Nat := [657, 682, 702, 723, 743, 766, 790, 816, 843, 869, 895].getD k 0
abbrev en_tO : Term := .static "java/lang/Integer" "DigitOnes" "[B"
abbrev en_tT : Term := .static "java/lang/Integer" "DigitTens" "[B"
abbrev en_tV : Term := .static "RepairBarrows" "VERBS" "[LRepairBarrows$Verb;"
abbrev en_tS : Term := .static "RepairBarrows$1" "$SwitchMap$RepairBarrows$Verb" "[I"
abbrev en_tk (k : Nat) : Term := .static "RepairBarrows$Verb" (en_n k) "LRepairBarrows$Verb;"
abbrev en_ts (k : Nat) : Term := .string "RepairBarrows$Verb" (en_e k)
abbrev en_tt : Term := .string "RepairBarrows" 266
abbrev en_tv (t : Term) : Term := .field t "java/lang/String" "value" "[B"
theorem en_f1a : en_F[15]? = some (.arrayOf en_tO .byte) := by decide +kernel
theorem en_f1l : en_F[16]? = some (.eq (.length en_tO) (.int (Int32.ofNat 100))) := by decide +kernel
theorem en_f1e : ∀ i, i < 100 → en_F[17 + i]? = some (.eq (.elem en_tO (.int (Int32.ofNat i))) (.int (Int32.ofNat (48 + i % 10)))) := by decide +kernel
theorem en_f2a : en_F[118]? = some (.arrayOf en_tT .byte) := by decide +kernel
theorem en_f2l : en_F[119]? = some (.eq (.length en_tT) (.int (Int32.ofNat 100))) := by decide +kernel
theorem en_f2e : ∀ i, i < 100 → en_F[120 + i]? = some (.eq (.elem en_tT (.int (Int32.ofNat i))) (.int (Int32.ofNat (48 + i / 10)))) := by decide +kernel
theorem en_f3a : en_F[222]? = some (.arrayOf en_tV (.object "RepairBarrows$Verb")) := by decide +kernel
theorem en_f3l : en_F[223]? = some (.eq (.length en_tV) (.int (Int32.ofNat 11))) := by decide +kernel
theorem en_f3e : ∀ i, i < 11 → en_F[225 + i]? = some (.eq (.elem en_tV (.int (Int32.ofNat i))) (en_tk i)) := by decide +kernel
theorem en_f4a : en_F[237]? = some (.arrayOf en_tS .int) := by decide +kernel
theorem en_f4l : en_F[238]? = some (.eq (.length en_tS) (.int (Int32.ofNat 11))) := by decide +kernel
theorem en_f4e : ∀ i, i < 11 → en_F[239 + i]? = some (.eq (.elem en_tS (.int (Int32.ofNat i))) (.int (Int32.ofNat (if i < 10 then i + 1 else 0)))) := by decide +kernel
theorem en_f5x : ∀ k, k < 11 → en_F[en_x k]? = some (.exactly (en_tk k) "RepairBarrows$Verb") := by decide +kernel
theorem en_f5o : ∀ k, k < 11 → en_F[en_x k + 1]? = some (.eq (.field (en_tk k) "java/lang/Enum" "ordinal" "I") (.int (Int32.ofNat k))) := by decide +kernel
theorem en_f5s : ∀ k, k < 11 → en_F[en_x k + 2]? = some (.eq (.field (en_tk k) "RepairBarrows$Verb" "shape" "Ljava/lang/String;") (en_ts k)) := by decide +kernel
theorem en_f6x : ∀ k, k < 11 → en_F[en_y k]? = some (.exactly (en_ts k) "java/lang/String") := by decide +kernel
theorem en_f6c : ∀ k, k < 11 → en_F[en_y k + 1]? = some (.eq (.field (en_ts k) "java/lang/String" "coder" "B") (.int (Int32.ofNat 0))) := by decide +kernel
theorem en_f6a : ∀ k, k < 11 → en_F[en_y k + 2]? = some (.arrayOf (en_tv (en_ts k)) .byte) := by decide +kernel
theorem en_f6l : ∀ k, k < 11 → en_F[en_y k + 3]? = some (.eq (.length (en_tv (en_ts k))) (.int (Int32.ofNat (lnF k)))) := by decide +kernel
theorem en_f6e : ∀ k, k < 11 → ∀ j, j < lnF k → en_F[en_y k + 4 + j]? = some (.eq (.elem (en_tv (en_ts k)) (.int (Int32.ofNat j))) (.int (Int32.ofNat (shF k j)))) := by decide +kernel
def en_t2 (j : Nat) : Nat := if j = 0 then 32 else if j = 1 then 116 else 0
theorem en_f7x : en_F[645]? = some (.exactly en_tt "java/lang/String") := by decide +kernel
theorem en_f7c : en_F[646]? = some (.eq (.field en_tt "java/lang/String" "coder" "B") (.int (Int32.ofNat 0))) := by decide +kernel
theorem en_f7a : en_F[647]? = some (.arrayOf (en_tv en_tt) .byte) := by decide +kernel
theorem en_f7l : en_F[648]? = some (.eq (.length (en_tv en_tt)) (.int (Int32.ofNat 2))) := by decide +kernel
theorem en_f7e : ∀ j, j < 2 → en_F[649 + j]? = some (.eq (.elem (en_tv en_tt) (.int (Int32.ofNat j))) (.int (Int32.ofNat (en_t2 j)))) := by decide +kernel
theorem en_f8c : en_F[7]? = some (.eq (.static "java/lang/String" "COMPACT_STRINGS" "Z") (.int 1)) := by decide +kernel
theorem en_f8u : en_F[8]? = some (.isRef (.static Bundle.tN "UNASSIGNED_STACK" Bundle.steD)) := by decide +kernel
theorem en_f8p : en_F[9]? = some (.isRef (.static Bundle.tN "SUPPRESSED_SENTINEL" Bundle.listD)) := by decide +kernel
theorem en_f8f : en_F[10]? = some (.isRef (.static "jdk/internal/util/Preconditions" "SIOOBE_FORMATTER" "Ljava/util/function/BiFunction;")) := by decide +kernel
theorem en_shF (k : Nat) (hk : k < 11) (i : Nat) : shF k i < 128 := by
  by_cases hi : i < 14
  · have h : ∀ k, k < 11 → ∀ i, i < 14 → shF k i < 128 := by decide +kernel
    exact h k hk i hi
  · have h : ∀ k, k < 11 → (shL k).length ≤ 14 := by decide +kernel
    have h2 := h k hk
    unfold shF
    rw [List.getD_eq_getElem?_getD, List.getElem?_eq_none (by omega)]
    decide
theorem en_ln : ∀ k, k < 11 → lnF k < 100 := by decide +kernel
section E2
variable {s : State} {args : Array Value} {D : va_G} {dA : sDA}
/-- a row of bytes that a term names -/
theorem en_bytes {tm : Term} {N : Nat} {f : Nat → Nat} (hd : dA.2.1 = fun t cA => ArrOfT s cA t) (h2 : dA.2.2 = s.heap.size) (hN : N < 2147483648) (harr : (Cond.arrayOf tm .byte).before args s = true) (hlen : (Cond.eq (.length tm) (.int (Int32.ofNat N))).before args s = true) (hel : ∀ j : Nat, j < N → (Cond.eq (.elem tm (.int (Int32.ofNat j))) (.int (Int32.ofNat (f j)))).before args s = true) : ∃ (t : Nat) (g : Nat → Int32), tm.eval args s none [] s = some (.ref t) ∧ t < s.heap.size ∧ en_G D dA s.heap t = some (.inl (.byte, (N, .inl g))) ∧ (∀ j : Nat, j < N → g j = ic (f j)) ∧ ∀ j : Nat, N ≤ j → g j = 0 := by
  obtain ⟨t, cell, ht, hcell, hof, hkn, hsz, hv⟩ := en_arr (f := fun j => .int (Int32.ofNat (f j))) hN harr hlen (fun j hj => va_eqt (hel j hj))
  have hlt : t < s.heap.size := (Array.getElem?_eq_some_iff.mp hcell).1
  have hG := en_gB (D := D) hd (by rw [h2]; exact hlt) hcell hof hkn (fun j v hj => by
    by_cases hjn : j < N
    · exact ⟨_, Option.some.inj (hj.symm.trans (hv j hjn))⟩
    · rw [Array.getElem?_eq_none (by omega)] at hj
      cases hj)
  rw [hsz] at hG
  refine ⟨t, _, ht, hlt, hG, fun j hj => ?_, fun j hj => ?_⟩
  · show en_i _ = _
    rw [hv j hj]
    rfl
  · show en_i _ = _
    rw [Array.getElem?_eq_none (by omega)]
    rfl
/-- a row of ints that a term names -/
theorem en_ints {tm : Term} {N : Nat} {f : Nat → Nat} (hd : dA.2.1 = fun t cA => ArrOfT s cA t) (h2 : dA.2.2 = s.heap.size) (hN : N < 2147483648) (harr : (Cond.arrayOf tm .int).before args s = true) (hlen : (Cond.eq (.length tm) (.int (Int32.ofNat N))).before args s = true) (hel : ∀ j : Nat, j < N → (Cond.eq (.elem tm (.int (Int32.ofNat j))) (.int (Int32.ofNat (f j)))).before args s = true) : ∃ (t : Nat) (g : Nat → Int32), tm.eval args s none [] s = some (.ref t) ∧ t < s.heap.size ∧ en_G D dA s.heap t = some (.inl (.int, (N, .inl g))) ∧ ∀ j : Nat, j < N → g j = ic (f j) := by
  obtain ⟨t, cell, ht, hcell, hof, hkn, hsz, hv⟩ := en_arr (f := fun j => .int (Int32.ofNat (f j))) hN harr hlen (fun j hj => va_eqt (hel j hj))
  have hlt : t < s.heap.size := (Array.getElem?_eq_some_iff.mp hcell).1
  have hG := en_gI (D := D) hd (by rw [h2]; exact hlt) hcell hof hkn (fun j v hj => by
    by_cases hjn : j < N
    · exact ⟨_, Option.some.inj (hj.symm.trans (hv j hjn))⟩
    · rw [Array.getElem?_eq_none (by omega)] at hj
      cases hj)
  rw [hsz] at hG
  refine ⟨t, _, ht, hlt, hG, fun j hj => ?_⟩
  show en_i _ = _
  rw [hv j hj]
  rfl
/-- a String that a term names -/
theorem en_str {tm : Term} {N : Nat} {f : Nat → Nat} (hd : dA.2.1 = fun t cA => ArrOfT s cA t) (h2 : dA.2.2 = s.heap.size) (hK : sK D dA s) (hne : D.1 10 ≠ D.1 11) (hN : N < 2147483648) (hex : (Cond.exactly tm "java/lang/String").before args s = true) (hco : (Cond.eq (.field tm "java/lang/String" "coder" "B") (.int (Int32.ofNat 0))).before args s = true) (harr : (Cond.arrayOf (en_tv tm) .byte).before args s = true) (hlen : (Cond.eq (.length (en_tv tm)) (.int (Int32.ofNat N))).before args s = true) (hel : ∀ j : Nat, j < N → (Cond.eq (.elem (en_tv tm) (.int (Int32.ofNat j))) (.int (Int32.ofNat (f j)))).before args s = true) :
    ∃ (a t : Nat) (g : Nat → Int32), tm.eval args s none [] s = some (.ref a) ∧ a < s.heap.size ∧ en_G D dA s.heap a = some (.inr (10, [.ref t, .int 0])) ∧ t < s.heap.size ∧ en_G D dA s.heap t = some (.inl (.byte, (N, .inl g))) ∧ (∀ j : Nat, j < N → g j = ic (f j)) ∧ ∀ j : Nat, N ≤ j → g j = 0 := by
  obtain ⟨a, c, cA, kA, q1, q2, q3, q4, q5, q6, -⟩ := Cond.exactly_spec (args := args) (first := s) (o := none) (s := s) (idx := []) (t := tm) (cls := "java/lang/String") hex
  obtain ⟨t, g, ht, hlt, hG, hg, hg2⟩ := en_bytes (D := D) hd h2 hN harr hlen hel
  have h10 : gC[10]? = some (gR10, gT10, 2) := rfl
  obtain ⟨c1, e1, e2, e3, e4⟩ := en_fld ((hK.1 10 _ h10).2 0 (by decide)) q1 ht
  obtain ⟨c2, f1, f2, f3, f4⟩ := en_fld ((hK.1 10 _ h10).2 1 (by decide)) q1 (va_eqt hco)
  cases q3.symm.trans e1
  cases q3.symm.trans f1
  have hlt2 : a < s.heap.size := (Array.getElem?_eq_some_iff.mp q3).1
  have hcls : cA.cls = D.1 10 := by
    rw [q6]
    exact Option.some.inj (q2.symm.trans (hK.1 10 _ h10).1.1)
  exact ⟨a, t, g, q1, hlt2, en_gS (by rw [h2]; exact hlt2) q3 e3 e2 hcls hne e4 f4, hlt, hG, hg, hg2⟩
/-- a String, as the walk wants it -/
theorem en_isStr {G : sH} {n0 a t N : Nat} {g : Nat → Int32} {f : Nat → Nat} (hN : N < 100) (hf : ∀ i, f i < 128) (ha : a < n0) (ht : t < n0) (h1 : G a = some (.inr (10, [.ref t, .int 0]))) (h2 : G t = some (.inl (.byte, (N, .inl g)))) (hg : ∀ j : Nat, j < N → g j = ic (f j)) : isStr n0 G a t N f := by
  refine ⟨ha, ht, hN, hf, (en_gf h1).trans rfl, (en_gf h1).trans rfl, en_ob h1, en_alen h2, fun i hi => ?_⟩
  rw [en_aldI h2 hi (by omega), hg i hi]
  rfl
/-- a verb that a term names -/
theorem en_verb {k : Nat} {q : Nat} {tm ts : Term} (h2 : dA.2.2 = s.heap.size) (hK : sK D dA s) (hex : (Cond.exactly tm "RepairBarrows$Verb").before args s = true) (hor : (Cond.eq (.field tm "java/lang/Enum" "ordinal" "I") (.int (Int32.ofNat k))).before args s = true) (hsh : (Cond.eq (.field tm "RepairBarrows$Verb" "shape" "Ljava/lang/String;") ts).before args s = true) (hq : ts.eval args s none [] s = some (.ref q)) :
    ∃ a : Nat, tm.eval args s none [] s = some (.ref a) ∧ a < s.heap.size ∧ en_G D dA s.heap a = some (.inr (11, [.int (ic k), .ref q])) := by
  obtain ⟨a, c, cA, kA, q1, q2, q3, q4, q5, q6, -⟩ := Cond.exactly_spec (args := args) (first := s) (o := none) (s := s) (idx := []) (t := tm) (cls := "RepairBarrows$Verb") hex
  have h11 : gC[11]? = some (gR11, gT11, 2) := rfl
  obtain ⟨c1, e1, e2, e3, e4⟩ := en_fld ((hK.1 11 _ h11).2 0 (by decide)) q1 (va_eqt hor)
  obtain ⟨c2, f1, f2, f3, f4⟩ := en_fld ((hK.1 11 _ h11).2 1 (by decide)) q1 (va_eqv hsh hq)
  cases q3.symm.trans e1
  cases q3.symm.trans f1
  have hlt2 : a < s.heap.size := (Array.getElem?_eq_some_iff.mp q3).1
  have hcls : cA.cls = D.1 11 := by
    rw [q6]
    exact Option.some.inj (q2.symm.trans (hK.1 11 _ h11).1.1)
  exact ⟨a, q1, hlt2, en_gV (by rw [h2]; exact hlt2) q3 e3 e2 hcls e4 f4⟩
end E2
