/-! the start, whole -/
section E4
variable {s : State} {args : Array Value}
/-- at the start: what the evaluator takes as given, and what it reads of the launch's own cells -/
theorem en_all {b L : Nat} {xs : Nat → Int32} (hts : ∀ w ∈ lw_tbl, w.before args s = true) (hgv : (Jvm.Cond.and given_1 narrow_1).before args s = true) (hX : va_X b L xs s s.heap) (hL : L ≤ 3584) :
    ∃ (D : va_G) (dA : sDA) (S0 : Nat → Value) (vj : Nat), sCx (s.heap.size, S0) D dA s ∧ S0 5 = .ref vj ∧ Sta s.heap.size S0 (en_G D dA s.heap) ∧ Scr s.heap.size b L xs (en_G D dA s.heap) ∧ Scl s.heap.size b L (en_G D dA s.heap) := by
  have hF : ∀ w ∈ en_F, w.before args s = true := flat_of_before _ hgv
  have hf : ∀ {i : Nat} {w : Cond}, en_F[i]? = some w → w.before args s = true := fun h => hF _ (List.mem_of_getElem? h)
  have hA : ∀ a : Nat, a < s.heap.size → ¬ (fun z => s.heap.size ≤ z) a := fun a h => Nat.not_le.mpr h
  -- the classes
  obtain ⟨qs, cs, cS, kS, z1, -⟩ := Cond.exactly_spec (args := args) (first := s) (o := none) (s := s) (idx := []) (t := en_ts 0) (cls := "java/lang/String") (hf (en_f6x 0 (by decide)))
  obtain ⟨D, hD⟩ := en_D hts (va_eqt (hf (en_f5o 0 (by decide)))) (va_eqv (hf (en_f5s 0 (by decide))) z1)
  obtain ⟨fA, hfA⟩ := en_A hts
  have hK : sK D (fA, (fun t cA => ArrOfT s cA t), s.heap.size) s := ⟨hD, hfA, fun t cA h => h⟩
  have hne : D.1 10 ≠ D.1 11 := en_ne (hD 10 _ rfl).1.1 (hD 11 _ rfl).1.1 (by decide +kernel)
  generalize hdA : ((fA, (fun t cA => ArrOfT s cA t), s.heap.size) : sDA) = dA at hK
  have hd : dA.2.1 = fun t cA => ArrOfT s cA t := by rw [← hdA]
  have h2 : dA.2.2 = s.heap.size := by rw [← hdA]
  -- the digit tables
  obtain ⟨D1, g1, d1, d2, d3, d4, -⟩ := en_bytes (D := D) (f := fun r => 48 + r % 10) hd h2 (by decide) (hf en_f1a) (hf en_f1l) (fun j hj => hf (en_f1e j hj))
  obtain ⟨D2, g2, e1, e2, e3, e4, -⟩ := en_bytes (D := D) (f := fun r => 48 + r / 10) hd h2 (by decide) (hf en_f2a) (hf en_f2l) (fun j hj => hf (en_f2e j hj))
  -- the text " t"
  obtain ⟨st, bt, gt, t1, t2, t3, t4, t5, t6, t7⟩ := en_str (D := D) (f := en_t2) hd h2 hK hne (by decide) (hf en_f7x) (hf en_f7c) (hf en_f7a) (hf en_f7l) (fun j hj => hf (en_f7e j hj))
  -- the switch map
  obtain ⟨wa, gw, w1, w2, w3, w4⟩ := en_ints (D := D) (f := fun k => if k < 10 then k + 1 else 0) hd h2 (by decide) (hf en_f4a) (hf en_f4l) (fun j hj => hf (en_f4e j hj))
  -- the shapes, the verbs
  have hsh : ∀ k : Nat, ∃ x : Nat × Nat × (Nat → Int32), k < 11 → (en_ts k).eval args s none [] s = some (.ref x.1) ∧ x.1 < s.heap.size ∧ en_G D dA s.heap x.1 = some (.inr (10, [.ref x.2.1, .int 0])) ∧ x.2.1 < s.heap.size ∧ en_G D dA s.heap x.2.1 = some (.inl (.byte, (lnF k, .inl x.2.2))) ∧ ∀ j : Nat, j < lnF k → x.2.2 j = ic (shF k j) := by
    intro k
    by_cases hk : k < 11
    · obtain ⟨a, t, g, a1, a2, a3, a4, a5, a6, -⟩ := en_str (D := D) (f := shF k) hd h2 hK hne (by have := en_ln k hk; omega) (hf (en_f6x k hk)) (hf (en_f6c k hk)) (hf (en_f6a k hk)) (hf (en_f6l k hk)) (fun j hj => hf (en_f6e k hk j hj))
      exact ⟨(a, t, g), fun _ => ⟨a1, a2, a3, a4, a5, a6⟩⟩
    · exact ⟨(0, 0, fun _ => 0), fun h => absurd h hk⟩
  obtain ⟨X, hX1⟩ := Classical.axiomOfChoice hsh
  have hvb : ∀ k : Nat, ∃ a : Nat, k < 11 → (en_tk k).eval args s none [] s = some (.ref a) ∧ a < s.heap.size ∧ en_G D dA s.heap a = some (.inr (11, [.int (ic k), .ref (X k).1])) := by
    intro k
    by_cases hk : k < 11
    · obtain ⟨a, a1, a2, a3⟩ := en_verb (D := D) (k := k) h2 hK (hf (en_f5x k hk)) (hf (en_f5o k hk)) (hf (en_f5s k hk)) (hX1 k hk).1
      exact ⟨a, fun _ => ⟨a1, a2, a3⟩⟩
    · exact ⟨0, fun h => absurd h hk⟩
  obtain ⟨vv, hvv⟩ := Classical.axiomOfChoice hvb
  -- the row of verbs
  obtain ⟨va, cv, v1, v2, v3, v4, v5, v6⟩ := en_arr (f := fun j => .ref (vv j)) (by decide) (hf en_f3a) (hf en_f3l) (fun j hj => va_eqv (hf (en_f3e j hj)) (hvv j hj).1)
  have v7 : va < s.heap.size := (Array.getElem?_eq_some_iff.mp v2).1
  have v8 := en_gR (D := D) hd (by rw [h2]; exact v7) v2 v3 v4 (fun j v hj => by
    by_cases hjn : j < 11
    · exact ⟨some (vv j), Option.some.inj (hj.symm.trans (v6 j hjn))⟩
    · rw [Array.getElem?_eq_none (by omega)] at hj
      cases hj)
  rw [v5] at v8
  -- the script
  obtain ⟨scr, x1, x2, x3, x4, x5⟩ := hX
  have x6 : b < s.heap.size := (Array.getElem?_eq_some_iff.mp x1).1
  have x7 := en_gI (D := D) hd (by rw [h2]; exact x6) x1 x2 x3 (fun j v hj => by
    by_cases hjn : j < L
    · exact ⟨xs j, Option.some.inj (hj.symm.trans (x5 j hjn))⟩
    · rw [Array.getElem?_eq_none (by omega)] at hj
      cases hj)
  rw [x4] at x7
  -- the formatter: null or a reference
  have hfm : ∃ f6 : Value, (f6 = .null ∨ ∃ q, f6 = .ref q) ∧ va_Z "jdk/internal/util/Preconditions" "SIOOBE_FORMATTER" "Ljava/util/function/BiFunction;" f6 (fun z => s.heap.size ≤ z) s s.heap := by
    rcases va_Zqof (hts _ (List.mem_of_getElem? (i := 1192) (by decide +kernel))) (hts _ (List.mem_of_getElem? (i := 110) (by decide +kernel))) (hf en_f8f) hA with h | ⟨q, h⟩
    · exact ⟨_, Or.inl rfl, h⟩
    · exact ⟨_, Or.inr ⟨q, rfl⟩, h⟩
  obtain ⟨f6, hf6, hZ6⟩ := hfm
  refine ⟨D, dA, fun i => match i with
    | 0 => .int (ic 1)
    | 1 => .ref D1
    | 2 => .ref D2
    | 3 => .ref va
    | 4 => .ref wa
    | 5 => .ref (vv 0)
    | 6 => f6
    | _ => .ref st, vv 0, ?_, rfl, ?_, ?_, ?_⟩
  · refine ⟨en_TB hts, hK, fun own i y host h => va_Nw.of rfl (hts _ h), fun own i r n d host h => va_Nw.of rfl (hts _ h), fun C h => va_AO.of (hts _ h), en_castX hts, en_ncast hF, fun si q hq => ?_, ⟨st, rfl, vk_R.of (hts _ (List.mem_of_getElem? (i := 1396) (by decide +kernel))) t1⟩, vx_Zqof (hts _ (List.mem_of_getElem? (i := 607) (by decide +kernel))) (hts _ (List.mem_of_getElem? (i := 96) (by decide +kernel))) (hf en_f8u) hA, vx_Zqof (hts _ (List.mem_of_getElem? (i := 609) (by decide +kernel))) (hts _ (List.mem_of_getElem? (i := 96) (by decide +kernel))) (hf en_f8p) hA, en_thd hts, h2⟩
    match si, hq with
    | 0, hq =>
      cases hq
      exact va_Zof (hts _ (List.mem_of_getElem? (i := 369) (by decide +kernel))) (hts _ (List.mem_of_getElem? (i := 92) (by decide +kernel))) (va_eqi (hf en_f8c)) hA
    | 1, hq =>
      cases hq
      exact va_Zof (hts _ (List.mem_of_getElem? (i := 1262) (by decide +kernel))) (hts _ (List.mem_of_getElem? (i := 113) (by decide +kernel))) d1 hA
    | 2, hq =>
      cases hq
      exact va_Zof (hts _ (List.mem_of_getElem? (i := 1264) (by decide +kernel))) (hts _ (List.mem_of_getElem? (i := 113) (by decide +kernel))) e1 hA
    | 3, hq =>
      cases hq
      exact va_Zof (hts _ (List.mem_of_getElem? (i := 1454) (by decide +kernel))) (hts _ (List.mem_of_getElem? (i := 80) (by decide +kernel))) v1 hA
    | 4, hq =>
      cases hq
      exact va_Zof (hts _ (List.mem_of_getElem? (i := 1510) (by decide +kernel))) (hts _ (List.mem_of_getElem? (i := 114) (by decide +kernel))) w1 hA
    | 5, hq =>
      cases hq
      exact va_Zof (hts _ (List.mem_of_getElem? (i := 328) (by decide +kernel))) (hts _ (List.mem_of_getElem? (i := 89) (by decide +kernel))) (hvv 0 (by decide)).1 hA
    | 6, hq =>
      cases hq
      exact hZ6
    | si + 7, hq =>
      rw [List.getElem?_eq_none (by show 7 ≤ si + 7; omega)] at hq
      cases hq
  · refine ⟨rfl, hf6, ⟨D1, D2, rfl, rfl, ⟨d2, fun r hr => ?_⟩, ⟨e2, fun r hr => ?_⟩⟩, ⟨st, bt, en_t2, rfl, en_isStr (by decide) (fun i => ?_) t2 t4 t3 t5 t6, rfl, rfl, ?_⟩, va, vv, (fun k => (X k).1), (fun k => (X k).2.1), wa, ⟨rfl, hf6, rfl, v7, en_alen v8, fun k hk => ⟨(hvv k hk).2.1, ?_, ?_, ?_, (tb3 k hk).1⟩⟩, ⟨rfl, w2, fun k hk => ⟨(hvv k hk).2.1, en_ob (hvv k hk).2.2, ?_, ?_⟩⟩⟩
    · rw [en_aldI d3 hr (by decide), d4 r hr]
      rfl
    · rw [en_aldI e3 hr (by decide), e4 r hr]
      rfl
    · unfold en_t2
      split
      · decide
      · split <;> decide
    · rw [t5]
      show some (Sum.inl (FieldType.byte, (2, Sum.inl gt))) = some (Sum.inl (FieldType.byte, (2, Sum.inl (fun i => ic (en_t2 i)))))
      congr 5
      funext j
      by_cases hj : j < 2
      · exact t6 j hj
      · rw [t7 j (by omega)]
        unfold en_t2
        rw [if_neg (by omega), if_neg (by omega)]
        rfl
    · rw [en_aldR v8 hk (by decide), v6 k hk]
      rfl
    · exact (en_gf (hvv k hk).2.2).trans rfl
    · obtain ⟨a1, a2, a3, a4, a5, a6⟩ := hX1 k hk
      exact en_isStr (en_ln k hk) (en_shF k hk) a2 a4 a3 a5 a6
    · exact (en_gf (hvv k hk).2.2).trans rfl
    · rw [en_aldI w3 hk (by decide), w4 k hk]
  · intro G' m' h j hj
    have e : aldI .int (hp s.heap.size G' m') b (ic j) = aldI .int (en_G D dA s.heap) b (ic j) := by
      unfold aldI
      rw [en_old x6 h]
    rw [e, en_aldI x7 hj (by omega), x5 j hj]
    rfl
  · intro G' m' h
    have e : alen (hp s.heap.size G' m') b = alen (en_G D dA s.heap) b := by
      unfold alen
      rw [en_old x6 h]
    rw [e]
    exact en_alen x7
end E4
