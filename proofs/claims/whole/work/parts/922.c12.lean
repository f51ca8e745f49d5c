/-! texts; the class's Program: its small methods; expanded by wip/whole/px.py out of wip/whole/c12.src -/
section C12
variable {n0 N z d : Nat} {S0 : Nat → Value} {G : sH} {m : mm}
theorem hp_lt {q : Nat} (h : q < n0) : hp n0 G m q = G q := hp_out (fun z => by omega)
theorem gf_lt {q : Nat} (h : q < n0) (c i : Nat) : gf (hp n0 G m) q c i = gf G q c i := by
  unfold gf
  rw [hp_lt h]
theorem isOb_lt {q : Nat} (h : q < n0) (c : Nat) : isOb (hp n0 G m) q c = isOb G q c := by
  unfold isOb
  rw [hp_lt h]
theorem alen_lt {q : Nat} (h : q < n0) : alen (hp n0 G m) q = alen G q := by
  unfold alen
  rw [hp_lt h]
theorem aldI_lt {q : Nat} (h : q < n0) (ty : FieldType) (i : Int32) : aldI ty (hp n0 G m) q i = aldI ty G q i := by
  unfold aldI
  rw [hp_lt h]
theorem aldR_lt {q : Nat} (h : q < n0) (i : Int32) : aldR (hp n0 G m) q i = aldR G q i := by
  unfold aldR
  rw [hp_lt h]
/-- a constant text of Latin letters: its String s, its bytes b -/
def isStr (n0 : Nat) (G : sH) (s b len : Nat) (f : Nat → Nat) : Prop := s < n0 ∧ b < n0 ∧ len < 100 ∧ (∀ i, f i < 128) ∧ gf G s 10 0 = some (.ref b) ∧ gf G s 10 1 = some (.int (ic 0)) ∧ isOb G s 10 = true ∧ alen G b = some (ic len) ∧ ∀ i, i < len → (aldI .byte G b (ic i)).or (aldI .boolean G b (ic i)) = some (.int (ic (f i)))
theorem shr0 (x : Int32) : x >>> (ic 0 &&& ic 31) = x := by
  have h : (ic 0 &&& ic 31) = 0 := rfl
  rw [h]
  apply Int32.toInt_inj.mp
  simp
theorem chr_and {c : Nat} (h : c < 128) : ((ic c &&& 255).toUInt32 % 65536).toInt32 = ic c := by
  have : ∀ c : Fin 128, ((ic c.val &&& 255).toUInt32 % 65536).toInt32 = ic c.val := by decide +kernel
  exact this ⟨c, h⟩
section STR
variable {s b len : Nat} {f : Nat → Nat}
theorem j_coder (hs : isStr n0 G s b len f) (h0 : S0 0 = .int (ic 1)) : Mt (n0, S0) (d + 1) 311 [.ref s] (hp n0 G m, N, z) = oI n0 G m N z (ic 0) := by
  obtain ⟨g1, g2, g3, g4, g5, g6, g7, g8, g9⟩ := hs
  have hnar : narrow .byte (.int (ic 0)) = .int (ic 0) := rfl
  rw [NString_coder]
  simp (disch := first | assumption | (show (_ : Nat) < _; omega) | (show (_ : Nat) ≠ _; omega) | (show (_ : Nat) ≤ _; omega) | exact Or.inl rfl | exact Or.inr rfl) only [hG0, hG1, hG2, hF0, hF1, hA0, hA1, xL, xC, icL, Option.bind_some, Nat.le_add_right, Nat.le_refl, if_true, if_false, and_self, true_and, and_true, or_false, false_or, or_true, true_or, and_false, false_and, not_true_eq_false, not_false_eq_true, Nat.reduceAdd, Nat.reduceLeDiff, Nat.reduceLT, Option.toList_some, Option.toList_none, List.cons_append, List.nil_append, callK_ret, callR_ret, callK_thr, decide_true, Bool.true_and, xNr, bI0, bIT, bIF, ne_eq, Classical.not_not, not_false_eq_true, false_or, List.length_nil, icM, ic_lt, ic_eq, le_nl, ↓reduceIte, Nat.lt_irrefl, ri_ws, ri_wn, ri_as, ri_an, upd_s, upd_n, rp_wi, rp_wa, rl_wi, rl_wa, rl_wp, rl_wpa, rl_wl, rp_wl, ri_wl, rp_wd, ri_wd, in_rng, Int32.lt_irrefl, Nat.not_lt_zero, pk_nc, Nat.reduceEqDiff, Nat.succ_ne_self, Nat.one_ne_zero, Nat.add_left_cancel_iff, ri_wpa, ri_wp, QString_coder_0, h0, gf_lt, g6, hnar]
theorem j_length (hs : isStr n0 G s b len f) (h0 : S0 0 = .int (ic 1)) : Mt (n0, S0) (d + 2) 310 [.ref s] (hp n0 G m, N, z) = oI n0 G m N z (ic len) := by
  have hs' := hs
  obtain ⟨g1, g2, g3, g4, g5, g6, g7, g8, g9⟩ := hs
  rw [NString_length]
  simp (disch := first | assumption | (show (_ : Nat) < _; omega) | (show (_ : Nat) ≠ _; omega) | (show (_ : Nat) ≤ _; omega) | exact Or.inl rfl | exact Or.inr rfl) only [hG0, hG1, hG2, hF0, hF1, hA0, hA1, xL, xC, icL, Option.bind_some, Nat.le_add_right, Nat.le_refl, if_true, if_false, and_self, true_and, and_true, or_false, false_or, or_true, true_or, and_false, false_and, not_true_eq_false, not_false_eq_true, Nat.reduceAdd, Nat.reduceLeDiff, Nat.reduceLT, Option.toList_some, Option.toList_none, List.cons_append, List.nil_append, callK_ret, callR_ret, callK_thr, decide_true, Bool.true_and, xNr, bI0, bIT, bIF, ne_eq, Classical.not_not, not_false_eq_true, false_or, List.length_nil, icM, ic_lt, ic_eq, le_nl, ↓reduceIte, Nat.lt_irrefl, ri_ws, ri_wn, ri_as, ri_an, upd_s, upd_n, rp_wi, rp_wa, rl_wi, rl_wa, rl_wp, rl_wpa, rl_wl, rp_wl, ri_wl, rp_wd, ri_wd, in_rng, Int32.lt_irrefl, Nat.not_lt_zero, pk_nc, Nat.reduceEqDiff, Nat.succ_ne_self, Nat.one_ne_zero, Nat.add_left_cancel_iff, ri_wpa, ri_wp, QString_length_0, gf_lt, isOb_lt, alen_lt, g5, g7, g8, j_coder hs' h0, shr0]
theorem j_isLatin1 (hs : isStr n0 G s b len f) (h0 : S0 0 = .int (ic 1)) : Mt (n0, S0) (d + 1) 315 [.ref s] (hp n0 G m, N, z) = oI n0 G m N z (ic 1) := by
  obtain ⟨g1, g2, g3, g4, g5, g6, g7, g8, g9⟩ := hs
  rw [NString_isLatin1]
  simp (disch := first | assumption | (show (_ : Nat) < _; omega) | (show (_ : Nat) ≠ _; omega) | (show (_ : Nat) ≤ _; omega) | exact Or.inl rfl | exact Or.inr rfl) only [hG0, hG1, hG2, hF0, hF1, hA0, hA1, xL, xC, icL, Option.bind_some, Nat.le_add_right, Nat.le_refl, if_true, if_false, and_self, true_and, and_true, or_false, false_or, or_true, true_or, and_false, false_and, not_true_eq_false, not_false_eq_true, Nat.reduceAdd, Nat.reduceLeDiff, Nat.reduceLT, Option.toList_some, Option.toList_none, List.cons_append, List.nil_append, callK_ret, callR_ret, callK_thr, decide_true, Bool.true_and, xNr, bI0, bIT, bIF, ne_eq, Classical.not_not, not_false_eq_true, false_or, List.length_nil, icM, ic_lt, ic_eq, le_nl, ↓reduceIte, Nat.lt_irrefl, ri_ws, ri_wn, ri_as, ri_an, upd_s, upd_n, rp_wi, rp_wa, rl_wi, rl_wa, rl_wp, rl_wpa, rl_wl, rp_wl, ri_wl, rp_wd, ri_wd, in_rng, Int32.lt_irrefl, Nat.not_lt_zero, pk_nc, Nat.reduceEqDiff, Nat.succ_ne_self, Nat.one_ne_zero, Nat.add_left_cancel_iff, ri_wpa, ri_wp, QString_isLatin1_0, h0, gf_lt, g6]
theorem NPrecond_null (E : sV) (d : Nat) (a0 a1 : Int32) (σ : sS) : Mt E (d + 1) 323 [.int a0, .int a1, .null] σ = Rx E d 323 0 [some (.int a0), some (.int a1), some .null] [] σ := Mt_succ gMT_323 (Nat.le_of_ble_eq_true rfl)
theorem j_checkIndex {i len : Nat} (hi : i < len) (hlen : len < 1000) (h6 : S0 6 = .null ∨ ∃ q, S0 6 = .ref q) {σ : sS} : Mt (n0, S0) (d + 2) 313 [.int (ic i), .int (ic len)] σ = some (.inl none, σ) := by
  rw [NString_checkIndex]
  rcases h6 with h6 | ⟨q, h6⟩
  · simp (disch := first | assumption | (show (_ : Nat) < _; omega) | (show (_ : Nat) ≠ _; omega) | (show (_ : Nat) ≤ _; omega) | exact Or.inl rfl | exact Or.inr rfl) only [hG0, hG1, hG2, hF0, hF1, hA0, hA1, xL, xC, icL, Option.bind_some, Nat.le_add_right, Nat.le_refl, if_true, if_false, and_self, true_and, and_true, or_false, false_or, or_true, true_or, and_false, false_and, not_true_eq_false, not_false_eq_true, Nat.reduceAdd, Nat.reduceLeDiff, Nat.reduceLT, Option.toList_some, Option.toList_none, List.cons_append, List.nil_append, callK_ret, callR_ret, callK_thr, decide_true, Bool.true_and, xNr, bI0, bIT, bIF, ne_eq, Classical.not_not, not_false_eq_true, false_or, List.length_nil, icM, ic_lt, ic_eq, le_nl, ↓reduceIte, Nat.lt_irrefl, ri_ws, ri_wn, ri_as, ri_an, upd_s, upd_n, rp_wi, rp_wa, rl_wi, rl_wa, rl_wp, rl_wpa, rl_wl, rp_wl, ri_wl, rp_wd, ri_wd, in_rng, Int32.lt_irrefl, Nat.not_lt_zero, pk_nc, Nat.reduceEqDiff, Nat.succ_ne_self, Nat.one_ne_zero, Nat.add_left_cancel_iff, ri_wpa, ri_wp, QString_checkIndex_0, h6, NPrecond_null, QPrecond_checkIndex_0, hi]
  · simp (disch := first | assumption | (show (_ : Nat) < _; omega) | (show (_ : Nat) ≠ _; omega) | (show (_ : Nat) ≤ _; omega) | exact Or.inl rfl | exact Or.inr rfl) only [hG0, hG1, hG2, hF0, hF1, hA0, hA1, xL, xC, icL, Option.bind_some, Nat.le_add_right, Nat.le_refl, if_true, if_false, and_self, true_and, and_true, or_false, false_or, or_true, true_or, and_false, false_and, not_true_eq_false, not_false_eq_true, Nat.reduceAdd, Nat.reduceLeDiff, Nat.reduceLT, Option.toList_some, Option.toList_none, List.cons_append, List.nil_append, callK_ret, callR_ret, callK_thr, decide_true, Bool.true_and, xNr, bI0, bIT, bIF, ne_eq, Classical.not_not, not_false_eq_true, false_or, List.length_nil, icM, ic_lt, ic_eq, le_nl, ↓reduceIte, Nat.lt_irrefl, ri_ws, ri_wn, ri_as, ri_an, upd_s, upd_n, rp_wi, rp_wa, rl_wi, rl_wa, rl_wp, rl_wpa, rl_wl, rp_wl, ri_wl, rp_wd, ri_wd, in_rng, Int32.lt_irrefl, Nat.not_lt_zero, pk_nc, Nat.reduceEqDiff, Nat.succ_ne_self, Nat.one_ne_zero, Nat.add_left_cancel_iff, ri_wpa, ri_wp, QString_checkIndex_0, h6, NPrecond_checkIndex, QPrecond_checkIndex_0, hi]
theorem j_charAt1 (hs : isStr n0 G s b len f) (h6 : S0 6 = .null ∨ ∃ q, S0 6 = .ref q) {i : Nat} (hi : i < len) : Mt (n0, S0) (d + 3) 317 [.ref b, .int (ic i)] (hp n0 G m, N, z) = oI n0 G m N z (ic (f i)) := by
  obtain ⟨g1, g2, g3, g4, g5, g6, g7, g8, g9⟩ := hs
  have g10 := g9 i hi
  have g4i := g4 i
  have hnar : narrow .char (.int (ic (f i))) = .int (ic (f i)) := (pk_charN (q := f i) (by omega)).1
  have hc := fun (σ : sS) => j_checkIndex (n0 := n0) (S0 := S0) (d := d) (σ := σ) hi (show len < 1000 by omega) h6
  rw [NLatin1_charAt]
  simp (disch := first | assumption | (show (_ : Nat) < _; omega) | (show (_ : Nat) ≠ _; omega) | (show (_ : Nat) ≤ _; omega) | exact Or.inl rfl | exact Or.inr rfl) only [hG0, hG1, hG2, hF0, hF1, hA0, hA1, xL, xC, icL, Option.bind_some, Nat.le_add_right, Nat.le_refl, if_true, if_false, and_self, true_and, and_true, or_false, false_or, or_true, true_or, and_false, false_and, not_true_eq_false, not_false_eq_true, Nat.reduceAdd, Nat.reduceLeDiff, Nat.reduceLT, Option.toList_some, Option.toList_none, List.cons_append, List.nil_append, callK_ret, callR_ret, callK_thr, decide_true, Bool.true_and, xNr, bI0, bIT, bIF, ne_eq, Classical.not_not, not_false_eq_true, false_or, List.length_nil, icM, ic_lt, ic_eq, le_nl, ↓reduceIte, Nat.lt_irrefl, ri_ws, ri_wn, ri_as, ri_an, upd_s, upd_n, rp_wi, rp_wa, rl_wi, rl_wa, rl_wp, rl_wpa, rl_wl, rp_wl, ri_wl, rp_wd, ri_wd, in_rng, Int32.lt_irrefl, Nat.not_lt_zero, pk_nc, Nat.reduceEqDiff, Nat.succ_ne_self, Nat.one_ne_zero, Nat.add_left_cancel_iff, ri_wpa, ri_wp, QLatin1_charAt_0, alen_lt, g8, hi, hc, aldI_lt, g10, chr_and, hnar]
theorem j_charAt (hs : isStr n0 G s b len f) (h0 : S0 0 = .int (ic 1)) (h6 : S0 6 = .null ∨ ∃ q, S0 6 = .ref q) {i : Nat} (hi : i < len) : Mt (n0, S0) (d + 4) 314 [.ref s, .int (ic i)] (hp n0 G m, N, z) = oI n0 G m N z (ic (f i)) := by
  have hs' := hs
  obtain ⟨g1, g2, g3, g4, g5, g6, g7, g8, g9⟩ := hs
  have g4i := g4 i
  have hnar : narrow .char (.int (ic (f i))) = .int (ic (f i)) := (pk_charN (q := f i) (by omega)).1
  rw [NString_charAt]
  simp (disch := first | assumption | (show (_ : Nat) < _; omega) | (show (_ : Nat) ≠ _; omega) | (show (_ : Nat) ≤ _; omega) | exact Or.inl rfl | exact Or.inr rfl) only [hG0, hG1, hG2, hF0, hF1, hA0, hA1, xL, xC, icL, Option.bind_some, Nat.le_add_right, Nat.le_refl, if_true, if_false, and_self, true_and, and_true, or_false, false_or, or_true, true_or, and_false, false_and, not_true_eq_false, not_false_eq_true, Nat.reduceAdd, Nat.reduceLeDiff, Nat.reduceLT, Option.toList_some, Option.toList_none, List.cons_append, List.nil_append, callK_ret, callR_ret, callK_thr, decide_true, Bool.true_and, xNr, bI0, bIT, bIF, ne_eq, Classical.not_not, not_false_eq_true, false_or, List.length_nil, icM, ic_lt, ic_eq, le_nl, ↓reduceIte, Nat.lt_irrefl, ri_ws, ri_wn, ri_as, ri_an, upd_s, upd_n, rp_wi, rp_wa, rl_wi, rl_wa, rl_wp, rl_wpa, rl_wl, rp_wl, ri_wl, rp_wd, ri_wd, in_rng, Int32.lt_irrefl, Nat.not_lt_zero, pk_nc, Nat.reduceEqDiff, Nat.succ_ne_self, Nat.one_ne_zero, Nat.add_left_cancel_iff, ri_wpa, ri_wp, QString_charAt_0, isOb_lt, g7, j_isLatin1 hs' h0, gf_lt, g5, j_charAt1 hs' h6 hi, hnar]
end STR
theorem c_isFull : Mt (n0, S0) (d + 1) 30 [.ref (n0 + 269)] (hp n0 G m, N, z) = oI n0 G m N z (bI (¬ ri m 269 1 < ic 60)) := by
  have k269 : kd 269 = 13 := rfl
  rw [NProgram_isFull]
  by_cases h : ri m 269 1 < ic 60 <;> simp (disch := first | assumption | (show (_ : Nat) < _; omega) | (show (_ : Nat) ≠ _; omega) | (show (_ : Nat) ≤ _; omega) | exact Or.inl rfl | exact Or.inr rfl) only [hG0, hG1, hG2, hF0, hF1, hA0, hA1, xL, xC, icL, Option.bind_some, Nat.le_add_right, Nat.le_refl, if_true, if_false, and_self, true_and, and_true, or_false, false_or, or_true, true_or, and_false, false_and, not_true_eq_false, not_false_eq_true, Nat.reduceAdd, Nat.reduceLeDiff, Nat.reduceLT, Option.toList_some, Option.toList_none, List.cons_append, List.nil_append, callK_ret, callR_ret, callK_thr, decide_true, Bool.true_and, xNr, bI0, bIT, bIF, ne_eq, Classical.not_not, not_false_eq_true, false_or, List.length_nil, icM, ic_lt, ic_eq, le_nl, ↓reduceIte, Nat.lt_irrefl, ri_ws, ri_wn, ri_as, ri_an, upd_s, upd_n, rp_wi, rp_wa, rl_wi, rl_wa, rl_wp, rl_wpa, rl_wl, rp_wl, ri_wl, rp_wd, ri_wd, in_rng, Int32.lt_irrefl, Nat.not_lt_zero, pk_nc, Nat.reduceEqDiff, Nat.succ_ne_self, Nat.one_ne_zero, Nat.add_left_cancel_iff, ri_wpa, ri_wp, QProgram_isFull_0, h]
theorem c_append {l : Nat} (h : ri m 269 1 = ic l) (hl : l < 60) {c : Int32} : Mt (n0, S0) (d + 1) 31 [.ref (n0 + 269), .int c] (hp n0 G m, N, z) = oI n0 G (wi (wi m 270 l (sNar .char c)) 269 1 (ic (l + 1))) N z (ic (l + 1)) := by
  have k269 : kd 269 = 13 := rfl
  have k270 : kd 270 = 14 := rfl
  rw [NProgram_append]
  simp (disch := first | assumption | (show (_ : Nat) < _; omega) | (show (_ : Nat) ≠ _; omega) | (show (_ : Nat) ≤ _; omega) | exact Or.inl rfl | exact Or.inr rfl) only [hG0, hG1, hG2, hF0, hF1, hA0, hA1, xL, xC, icL, Option.bind_some, Nat.le_add_right, Nat.le_refl, if_true, if_false, and_self, true_and, and_true, or_false, false_or, or_true, true_or, and_false, false_and, not_true_eq_false, not_false_eq_true, Nat.reduceAdd, Nat.reduceLeDiff, Nat.reduceLT, Option.toList_some, Option.toList_none, List.cons_append, List.nil_append, callK_ret, callR_ret, callK_thr, decide_true, Bool.true_and, xNr, bI0, bIT, bIF, ne_eq, Classical.not_not, not_false_eq_true, false_or, List.length_nil, icM, ic_lt, ic_eq, le_nl, ↓reduceIte, Nat.lt_irrefl, ri_ws, ri_wn, ri_as, ri_an, upd_s, upd_n, rp_wi, rp_wa, rl_wi, rl_wa, rl_wp, rl_wpa, rl_wl, rp_wl, ri_wl, rp_wd, ri_wd, in_rng, Int32.lt_irrefl, Nat.not_lt_zero, pk_nc, Nat.reduceEqDiff, Nat.succ_ne_self, Nat.one_ne_zero, Nat.add_left_cancel_iff, ri_wpa, ri_wp, QProgram_append_0, h, hl, ic_add]
theorem c_typeFull (h : ¬ ri m 269 1 < ic 60) {c : Int32} : Mt (n0, S0) (d + 2) 119 [.ref n0, .int c] (hp n0 G m, N, z) = oT n0 G m N z "java/lang/IllegalStateException" := by
  have k269 : kd 269 = 13 := rfl
  rw [NMain_type]
  simp (disch := first | assumption | (show (_ : Nat) < _; omega) | (show (_ : Nat) ≠ _; omega) | (show (_ : Nat) ≤ _; omega) | exact Or.inl rfl | exact Or.inr rfl) only [hG0, hG1, hG2, hF0, hF1, hA0, hA1, xL, xC, icL, Option.bind_some, Nat.le_add_right, Nat.le_refl, if_true, if_false, and_self, true_and, and_true, or_false, false_or, or_true, true_or, and_false, false_and, not_true_eq_false, not_false_eq_true, Nat.reduceAdd, Nat.reduceLeDiff, Nat.reduceLT, Option.toList_some, Option.toList_none, List.cons_append, List.nil_append, callK_ret, callR_ret, callK_thr, decide_true, Bool.true_and, xNr, bI0, bIT, bIF, ne_eq, Classical.not_not, not_false_eq_true, false_or, List.length_nil, icM, ic_lt, ic_eq, le_nl, ↓reduceIte, Nat.lt_irrefl, ri_ws, ri_wn, ri_as, ri_an, upd_s, upd_n, rp_wi, rp_wa, rl_wi, rl_wa, rl_wp, rl_wpa, rl_wl, rp_wl, ri_wl, rp_wd, ri_wd, in_rng, Int32.lt_irrefl, Nat.not_lt_zero, pk_nc, Nat.reduceEqDiff, Nat.succ_ne_self, Nat.one_ne_zero, Nat.add_left_cancel_iff, ri_wpa, ri_wp, QMain_type_0, c_isFull, h]
theorem c_type {l : Nat} (h : ri m 269 1 = ic l) (hl : l < 60) {c : Int32} : Mt (n0, S0) (d + 2) 119 [.ref n0, .int c] (hp n0 G m, N, z) = oI n0 G (wi (wi m 270 l (sNar .char c)) 269 1 (ic (l + 1))) N z (ic (l + 1)) := by
  have k269 : kd 269 = 13 := rfl
  rw [NMain_type]
  simp (disch := first | assumption | (show (_ : Nat) < _; omega) | (show (_ : Nat) ≠ _; omega) | (show (_ : Nat) ≤ _; omega) | exact Or.inl rfl | exact Or.inr rfl) only [hG0, hG1, hG2, hF0, hF1, hA0, hA1, xL, xC, icL, Option.bind_some, Nat.le_add_right, Nat.le_refl, if_true, if_false, and_self, true_and, and_true, or_false, false_or, or_true, true_or, and_false, false_and, not_true_eq_false, not_false_eq_true, Nat.reduceAdd, Nat.reduceLeDiff, Nat.reduceLT, Option.toList_some, Option.toList_none, List.cons_append, List.nil_append, callK_ret, callR_ret, callK_thr, decide_true, Bool.true_and, xNr, bI0, bIT, bIF, ne_eq, Classical.not_not, not_false_eq_true, false_or, List.length_nil, icM, ic_lt, ic_eq, le_nl, ↓reduceIte, Nat.lt_irrefl, ri_ws, ri_wn, ri_as, ri_an, upd_s, upd_n, rp_wi, rp_wa, rl_wi, rl_wa, rl_wp, rl_wpa, rl_wl, rp_wl, ri_wl, rp_wd, ri_wd, in_rng, Int32.lt_irrefl, Nat.not_lt_zero, pk_nc, Nat.reduceEqDiff, Nat.succ_ne_self, Nat.one_ne_zero, Nat.add_left_cancel_iff, ri_wpa, ri_wp, QMain_type_0, c_isFull, h, hl, c_append h hl]
theorem c_empty : Mt (n0, S0) (d + 1) 40 [.ref (n0 + 269)] (hp n0 G m, N, z) = some (.inl none, (hp n0 G (wi m 269 1 (ic 0)), N, z)) := by
  have k269 : kd 269 = 13 := rfl
  rw [NProgram_empty]
  simp (disch := first | assumption | (show (_ : Nat) < _; omega) | (show (_ : Nat) ≠ _; omega) | (show (_ : Nat) ≤ _; omega) | exact Or.inl rfl | exact Or.inr rfl) only [hG0, hG1, hG2, hF0, hF1, hA0, hA1, xL, xC, icL, Option.bind_some, Nat.le_add_right, Nat.le_refl, if_true, if_false, and_self, true_and, and_true, or_false, false_or, or_true, true_or, and_false, false_and, not_true_eq_false, not_false_eq_true, Nat.reduceAdd, Nat.reduceLeDiff, Nat.reduceLT, Option.toList_some, Option.toList_none, List.cons_append, List.nil_append, callK_ret, callR_ret, callK_thr, decide_true, Bool.true_and, xNr, bI0, bIT, bIF, ne_eq, Classical.not_not, not_false_eq_true, false_or, List.length_nil, icM, ic_lt, ic_eq, le_nl, ↓reduceIte, Nat.lt_irrefl, ri_ws, ri_wn, ri_as, ri_an, upd_s, upd_n, rp_wi, rp_wa, rl_wi, rl_wa, rl_wp, rl_wpa, rl_wl, rp_wl, ri_wl, rp_wd, ri_wd, in_rng, Int32.lt_irrefl, Nat.not_lt_zero, pk_nc, Nat.reduceEqDiff, Nat.succ_ne_self, Nat.one_ne_zero, Nat.add_left_cancel_iff, ri_wpa, ri_wp, QProgram_empty_0]
abbrev isD (t : Nat → Int32) (l p : Nat) : Prop := p < l ∧ ¬ t p < ic 48 ∧ ¬ ic 57 < t p
theorem dg_ne {t : Nat → Int32} {l p : Nat} (h : isD t l p) : ¬ t p - ic 48 = -ic 1 := by
  obtain ⟨-, h1, h2⟩ := h
  intro e
  have e2 : t p = -ic 1 + ic 48 := by
    have := congrArg (· + ic 48) e
    simpa using this
  rw [show (-ic 1 + ic 48 : Int32) = ic 47 from rfl] at e2
  rw [e2] at h1
  exact h1 (by decide)
/-- a reader of a digit: what it answers, where it comes to -/
def rdD (t : Nat → Int32) (l p : Nat) : Int32 := if isD t l p then t p - ic 48 else -ic 1
def rdDp (t : Nat → Int32) (l p : Nat) : Nat := if isD t l p then p + 1 else p
/-- the place of the reader set -/
abbrev atM (m : mm) (p : Nat) : mm := wi m 269 2 (ic p)
theorem atM_id {p : Nat} (h : ri m 269 2 = ic p) : atM m p = m := by
  unfold atM wi
  rw [← h]
  refine (congrArg (wa m 269) ?_).trans (wa_self m 269)
  funext q
  unfold upd
  split
  · rename_i e
    rw [e]
  · rfl
theorem c_readDigit {l p : Nat} (hl : ri m 269 1 = ic l) (h60 : l ≤ 60) (hp0 : ri m 269 2 = ic p) (hpl : p ≤ l) : Mt (n0, S0) (d + 1) 37 [.ref (n0 + 269)] (hp n0 G m, N, z) = oI n0 G (atM m (rdDp (ri m 270) l p)) N z (rdD (ri m 270) l p) := by
  have k269 : kd 269 = 13 := rfl
  have k270 : kd 270 = 14 := rfl
  rw [NProgram_readDigit]
  by_cases h1 : p < l
  · by_cases h2 : ri m 270 p < ic 48
    · rw [rdDp, rdD, if_neg (fun z => z.2.1 h2), if_neg (fun z => z.2.1 h2), atM_id hp0]
      simp (disch := first | assumption | (show (_ : Nat) < _; omega) | (show (_ : Nat) ≠ _; omega) | (show (_ : Nat) ≤ _; omega) | exact Or.inl rfl | exact Or.inr rfl) only [hG0, hG1, hG2, hF0, hF1, hA0, hA1, xL, xC, icL, Option.bind_some, Nat.le_add_right, Nat.le_refl, if_true, if_false, and_self, true_and, and_true, or_false, false_or, or_true, true_or, and_false, false_and, not_true_eq_false, not_false_eq_true, Nat.reduceAdd, Nat.reduceLeDiff, Nat.reduceLT, Option.toList_some, Option.toList_none, List.cons_append, List.nil_append, callK_ret, callR_ret, callK_thr, decide_true, Bool.true_and, xNr, bI0, bIT, bIF, ne_eq, Classical.not_not, not_false_eq_true, false_or, List.length_nil, icM, ic_lt, ic_eq, le_nl, ↓reduceIte, Nat.lt_irrefl, ri_ws, ri_wn, ri_as, ri_an, upd_s, upd_n, rp_wi, rp_wa, rl_wi, rl_wa, rl_wp, rl_wpa, rl_wl, rp_wl, ri_wl, rp_wd, ri_wd, in_rng, Int32.lt_irrefl, Nat.not_lt_zero, pk_nc, Nat.reduceEqDiff, Nat.succ_ne_self, Nat.one_ne_zero, Nat.add_left_cancel_iff, ri_wpa, ri_wp, QProgram_readDigit_0, QProgram_readDigit_1, hl, hp0, h1, h2]
    · by_cases h3 : ic 57 < ri m 270 p
      · rw [rdDp, rdD, if_neg (fun z => z.2.2 h3), if_neg (fun z => z.2.2 h3), atM_id hp0]
        simp (disch := first | assumption | (show (_ : Nat) < _; omega) | (show (_ : Nat) ≠ _; omega) | (show (_ : Nat) ≤ _; omega) | exact Or.inl rfl | exact Or.inr rfl) only [hG0, hG1, hG2, hF0, hF1, hA0, hA1, xL, xC, icL, Option.bind_some, Nat.le_add_right, Nat.le_refl, if_true, if_false, and_self, true_and, and_true, or_false, false_or, or_true, true_or, and_false, false_and, not_true_eq_false, not_false_eq_true, Nat.reduceAdd, Nat.reduceLeDiff, Nat.reduceLT, Option.toList_some, Option.toList_none, List.cons_append, List.nil_append, callK_ret, callR_ret, callK_thr, decide_true, Bool.true_and, xNr, bI0, bIT, bIF, ne_eq, Classical.not_not, not_false_eq_true, false_or, List.length_nil, icM, ic_lt, ic_eq, le_nl, ↓reduceIte, Nat.lt_irrefl, ri_ws, ri_wn, ri_as, ri_an, upd_s, upd_n, rp_wi, rp_wa, rl_wi, rl_wa, rl_wp, rl_wpa, rl_wl, rp_wl, ri_wl, rp_wd, ri_wd, in_rng, Int32.lt_irrefl, Nat.not_lt_zero, pk_nc, Nat.reduceEqDiff, Nat.succ_ne_self, Nat.one_ne_zero, Nat.add_left_cancel_iff, ri_wpa, ri_wp, QProgram_readDigit_0, QProgram_readDigit_1, hl, hp0, h1, h2, h3]
      · rw [rdDp, rdD, if_pos ⟨h1, h2, h3⟩, if_pos ⟨h1, h2, h3⟩]
        simp (disch := first | assumption | (show (_ : Nat) < _; omega) | (show (_ : Nat) ≠ _; omega) | (show (_ : Nat) ≤ _; omega) | exact Or.inl rfl | exact Or.inr rfl) only [hG0, hG1, hG2, hF0, hF1, hA0, hA1, xL, xC, icL, Option.bind_some, Nat.le_add_right, Nat.le_refl, if_true, if_false, and_self, true_and, and_true, or_false, false_or, or_true, true_or, and_false, false_and, not_true_eq_false, not_false_eq_true, Nat.reduceAdd, Nat.reduceLeDiff, Nat.reduceLT, Option.toList_some, Option.toList_none, List.cons_append, List.nil_append, callK_ret, callR_ret, callK_thr, decide_true, Bool.true_and, xNr, bI0, bIT, bIF, ne_eq, Classical.not_not, not_false_eq_true, false_or, List.length_nil, icM, ic_lt, ic_eq, le_nl, ↓reduceIte, Nat.lt_irrefl, ri_ws, ri_wn, ri_as, ri_an, upd_s, upd_n, rp_wi, rp_wa, rl_wi, rl_wa, rl_wp, rl_wpa, rl_wl, rp_wl, ri_wl, rp_wd, ri_wd, in_rng, Int32.lt_irrefl, Nat.not_lt_zero, pk_nc, Nat.reduceEqDiff, Nat.succ_ne_self, Nat.one_ne_zero, Nat.add_left_cancel_iff, ri_wpa, ri_wp, QProgram_readDigit_0, QProgram_readDigit_1, hl, hp0, h1, h2, h3, ic_add]
  · rw [rdDp, rdD, if_neg (fun z => h1 z.1), if_neg (fun z => h1 z.1), atM_id hp0]
    simp (disch := first | assumption | (show (_ : Nat) < _; omega) | (show (_ : Nat) ≠ _; omega) | (show (_ : Nat) ≤ _; omega) | exact Or.inl rfl | exact Or.inr rfl) only [hG0, hG1, hG2, hF0, hF1, hA0, hA1, xL, xC, icL, Option.bind_some, Nat.le_add_right, Nat.le_refl, if_true, if_false, and_self, true_and, and_true, or_false, false_or, or_true, true_or, and_false, false_and, not_true_eq_false, not_false_eq_true, Nat.reduceAdd, Nat.reduceLeDiff, Nat.reduceLT, Option.toList_some, Option.toList_none, List.cons_append, List.nil_append, callK_ret, callR_ret, callK_thr, decide_true, Bool.true_and, xNr, bI0, bIT, bIF, ne_eq, Classical.not_not, not_false_eq_true, false_or, List.length_nil, icM, ic_lt, ic_eq, le_nl, ↓reduceIte, Nat.lt_irrefl, ri_ws, ri_wn, ri_as, ri_an, upd_s, upd_n, rp_wi, rp_wa, rl_wi, rl_wa, rl_wp, rl_wpa, rl_wl, rp_wl, ri_wl, rp_wd, ri_wd, in_rng, Int32.lt_irrefl, Nat.not_lt_zero, pk_nc, Nat.reduceEqDiff, Nat.succ_ne_self, Nat.one_ne_zero, Nat.add_left_cancel_iff, ri_wpa, ri_wp, QProgram_readDigit_0, QProgram_readDigit_1, hl, hp0, h1]
def rdS1 (t : Nat → Int32) (l p : Nat) (c : Int32) : Prop := p < l ∧ t p = c
theorem c_readSign {l p : Nat} (hl : ri m 269 1 = ic l) (h60 : l ≤ 60) (hp0 : ri m 269 2 = ic p) (hpl : p ≤ l) {c : Int32} : Mt (n0, S0) (d + 1) 39 [.ref (n0 + 269), .int c] (hp n0 G m, N, z) = if p < l ∧ ri m 270 p = c then oI n0 G (atM m (p + 1)) N z (ic 1) else oI n0 G m N z (ic 0) := by
  have k269 : kd 269 = 13 := rfl
  have k270 : kd 270 = 14 := rfl
  rw [NProgram_readSign]
  by_cases h1 : p < l
  · by_cases h2 : ri m 270 p = c <;> simp (disch := first | assumption | (show (_ : Nat) < _; omega) | (show (_ : Nat) ≠ _; omega) | (show (_ : Nat) ≤ _; omega) | exact Or.inl rfl | exact Or.inr rfl) only [hG0, hG1, hG2, hF0, hF1, hA0, hA1, xL, xC, icL, Option.bind_some, Nat.le_add_right, Nat.le_refl, if_true, if_false, and_self, true_and, and_true, or_false, false_or, or_true, true_or, and_false, false_and, not_true_eq_false, not_false_eq_true, Nat.reduceAdd, Nat.reduceLeDiff, Nat.reduceLT, Option.toList_some, Option.toList_none, List.cons_append, List.nil_append, callK_ret, callR_ret, callK_thr, decide_true, Bool.true_and, xNr, bI0, bIT, bIF, ne_eq, Classical.not_not, not_false_eq_true, false_or, List.length_nil, icM, ic_lt, ic_eq, le_nl, ↓reduceIte, Nat.lt_irrefl, ri_ws, ri_wn, ri_as, ri_an, upd_s, upd_n, rp_wi, rp_wa, rl_wi, rl_wa, rl_wp, rl_wpa, rl_wl, rp_wl, ri_wl, rp_wd, ri_wd, in_rng, Int32.lt_irrefl, Nat.not_lt_zero, pk_nc, Nat.reduceEqDiff, Nat.succ_ne_self, Nat.one_ne_zero, Nat.add_left_cancel_iff, ri_wpa, ri_wp, QProgram_readSign_0, QProgram_readSign_1, hl, hp0, h1, h2, ic_add]
  · simp (disch := first | assumption | (show (_ : Nat) < _; omega) | (show (_ : Nat) ≠ _; omega) | (show (_ : Nat) ≤ _; omega) | exact Or.inl rfl | exact Or.inr rfl) only [hG0, hG1, hG2, hF0, hF1, hA0, hA1, xL, xC, icL, Option.bind_some, Nat.le_add_right, Nat.le_refl, if_true, if_false, and_self, true_and, and_true, or_false, false_or, or_true, true_or, and_false, false_and, not_true_eq_false, not_false_eq_true, Nat.reduceAdd, Nat.reduceLeDiff, Nat.reduceLT, Option.toList_some, Option.toList_none, List.cons_append, List.nil_append, callK_ret, callR_ret, callK_thr, decide_true, Bool.true_and, xNr, bI0, bIT, bIF, ne_eq, Classical.not_not, not_false_eq_true, false_or, List.length_nil, icM, ic_lt, ic_eq, le_nl, ↓reduceIte, Nat.lt_irrefl, ri_ws, ri_wn, ri_as, ri_an, upd_s, upd_n, rp_wi, rp_wa, rl_wi, rl_wa, rl_wp, rl_wpa, rl_wl, rp_wl, ri_wl, rp_wd, ri_wd, in_rng, Int32.lt_irrefl, Nat.not_lt_zero, pk_nc, Nat.reduceEqDiff, Nat.succ_ne_self, Nat.one_ne_zero, Nat.add_left_cancel_iff, ri_wpa, ri_wp, QProgram_readSign_0, QProgram_readSign_1, hl, hp0, h1]
def rdK (t : Nat → Int32) (l p : Nat) : Int32 := if p < l then kI (t p) else -ic 1
def rdKp (t : Nat → Int32) (l p : Nat) : Nat := if rdK t l p = -ic 1 then p else p + 1
theorem c_readKind {l p : Nat} (hl : ri m 269 1 = ic l) (h60 : l ≤ 60) (hp0 : ri m 269 2 = ic p) (hpl : p ≤ l) : Mt (n0, S0) (d + 2) 38 [.ref (n0 + 269)] (hp n0 G m, N, z) = oI n0 G (atM m (rdKp (ri m 270) l p)) N z (rdK (ri m 270) l p) := by
  have k269 : kd 269 = 13 := rfl
  have k270 : kd 270 = 14 := rfl
  have hk := fun (σ : sS) => c_kindIndex (n0 := n0) (S0 := S0) (d := d) (x := ri m 270 p) (σ := σ)
  have hkI : (if ¬ ri m 270 p < ic 97 ∧ ri m 270 p < ic 101 then ri m 270 p - ic 97 else -ic 1) = kI (ri m 270 p) := rfl
  rw [hkI] at hk
  rw [NProgram_readKind]
  by_cases h1 : p < l
  · have e : rdK (ri m 270) l p = kI (ri m 270 p) := if_pos h1
    rw [rdKp, e]
    by_cases h2 : kI (ri m 270 p) = -ic 1
    · rw [if_pos h2, atM_id hp0]
      simp (disch := first | assumption | (show (_ : Nat) < _; omega) | (show (_ : Nat) ≠ _; omega) | (show (_ : Nat) ≤ _; omega) | exact Or.inl rfl | exact Or.inr rfl) only [hG0, hG1, hG2, hF0, hF1, hA0, hA1, xL, xC, icL, Option.bind_some, Nat.le_add_right, Nat.le_refl, if_true, if_false, and_self, true_and, and_true, or_false, false_or, or_true, true_or, and_false, false_and, not_true_eq_false, not_false_eq_true, Nat.reduceAdd, Nat.reduceLeDiff, Nat.reduceLT, Option.toList_some, Option.toList_none, List.cons_append, List.nil_append, callK_ret, callR_ret, callK_thr, decide_true, Bool.true_and, xNr, bI0, bIT, bIF, ne_eq, Classical.not_not, not_false_eq_true, false_or, List.length_nil, icM, ic_lt, ic_eq, le_nl, ↓reduceIte, Nat.lt_irrefl, ri_ws, ri_wn, ri_as, ri_an, upd_s, upd_n, rp_wi, rp_wa, rl_wi, rl_wa, rl_wp, rl_wpa, rl_wl, rp_wl, ri_wl, rp_wd, ri_wd, in_rng, Int32.lt_irrefl, Nat.not_lt_zero, pk_nc, Nat.reduceEqDiff, Nat.succ_ne_self, Nat.one_ne_zero, Nat.add_left_cancel_iff, ri_wpa, ri_wp, QProgram_readKind_0, QProgram_readKind_1, hl, hp0, h1, hk, h2]
    · rw [if_neg h2]
      simp (disch := first | assumption | (show (_ : Nat) < _; omega) | (show (_ : Nat) ≠ _; omega) | (show (_ : Nat) ≤ _; omega) | exact Or.inl rfl | exact Or.inr rfl) only [hG0, hG1, hG2, hF0, hF1, hA0, hA1, xL, xC, icL, Option.bind_some, Nat.le_add_right, Nat.le_refl, if_true, if_false, and_self, true_and, and_true, or_false, false_or, or_true, true_or, and_false, false_and, not_true_eq_false, not_false_eq_true, Nat.reduceAdd, Nat.reduceLeDiff, Nat.reduceLT, Option.toList_some, Option.toList_none, List.cons_append, List.nil_append, callK_ret, callR_ret, callK_thr, decide_true, Bool.true_and, xNr, bI0, bIT, bIF, ne_eq, Classical.not_not, not_false_eq_true, false_or, List.length_nil, icM, ic_lt, ic_eq, le_nl, ↓reduceIte, Nat.lt_irrefl, ri_ws, ri_wn, ri_as, ri_an, upd_s, upd_n, rp_wi, rp_wa, rl_wi, rl_wa, rl_wp, rl_wpa, rl_wl, rp_wl, ri_wl, rp_wd, ri_wd, in_rng, Int32.lt_irrefl, Nat.not_lt_zero, pk_nc, Nat.reduceEqDiff, Nat.succ_ne_self, Nat.one_ne_zero, Nat.add_left_cancel_iff, ri_wpa, ri_wp, QProgram_readKind_0, QProgram_readKind_1, hl, hp0, h1, hk, h2, ic_add]
  · have e : rdK (ri m 270) l p = -ic 1 := if_neg h1
    rw [rdKp, e, if_pos rfl, atM_id hp0]
    simp (disch := first | assumption | (show (_ : Nat) < _; omega) | (show (_ : Nat) ≠ _; omega) | (show (_ : Nat) ≤ _; omega) | exact Or.inl rfl | exact Or.inr rfl) only [hG0, hG1, hG2, hF0, hF1, hA0, hA1, xL, xC, icL, Option.bind_some, Nat.le_add_right, Nat.le_refl, if_true, if_false, and_self, true_and, and_true, or_false, false_or, or_true, true_or, and_false, false_and, not_true_eq_false, not_false_eq_true, Nat.reduceAdd, Nat.reduceLeDiff, Nat.reduceLT, Option.toList_some, Option.toList_none, List.cons_append, List.nil_append, callK_ret, callR_ret, callK_thr, decide_true, Bool.true_and, xNr, bI0, bIT, bIF, ne_eq, Classical.not_not, not_false_eq_true, false_or, List.length_nil, icM, ic_lt, ic_eq, le_nl, ↓reduceIte, Nat.lt_irrefl, ri_ws, ri_wn, ri_as, ri_an, upd_s, upd_n, rp_wi, rp_wa, rl_wi, rl_wa, rl_wp, rl_wpa, rl_wl, rp_wl, ri_wl, rp_wd, ri_wd, in_rng, Int32.lt_irrefl, Nat.not_lt_zero, pk_nc, Nat.reduceEqDiff, Nat.succ_ne_self, Nat.one_ne_zero, Nat.add_left_cancel_iff, ri_wpa, ri_wp, QProgram_readKind_0, QProgram_readKind_1, hl, hp0, h1]
end C12
