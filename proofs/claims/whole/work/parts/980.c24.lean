/-! the JDK's StringBuilder: its array, its capacity; expanded by wip/whole/px.py out of wip/whole/c24.src -/
def updN (f : Nat → Nat) (i v : Nat) : Nat → Nat := fun j => if j = i then v else f j
/-- the builder's capacities, and what they have taken of the room -/
def cap : Nat → Nat
  | 0 => 16
  | k + 1 => 2 * cap k + 2
def zcap : Nat → Nat
  | 0 => 0
  | k + 1 => zcap k + cap (k + 1)
theorem cap_b {k : Nat} (h : k ≤ 3) : 16 ≤ cap k ∧ cap k ≤ 142 := by
  rcases (show k = 0 ∨ k = 1 ∨ k = 2 ∨ k = 3 by omega) with rfl | rfl | rfl | rfl <;> decide
theorem cap_s {k : Nat} (h : k ≤ 3) (h2 : cap k < 142) : k + 1 ≤ 3 := by
  rcases (show k = 0 ∨ k = 1 ∨ k = 2 ∨ k = 3 by omega) with rfl | rfl | rfl | rfl
  · decide
  · decide
  · decide
  · exact absurd h2 (by decide)
/-- an address outside the numbered places -/
def oA (n0 v : Nat) : Prop := n0 ≤ v ∧ kd (v - n0) = 99
theorem oA.out {n0 v : Nat} (h : oA n0 v) : ¬ (n0 ≤ v ∧ kd (v - n0) ≠ 99) := fun z => z.2 h.2
theorem kd_hi {k : Nat} (h : 305 ≤ k) : kd k = 99 := by
  unfold kd
  repeat (first | rw [if_neg (by omega)] | rfl)
theorem oA_hi {n0 v : Nat} (h : n0 + 305 ≤ v) : oA n0 v := ⟨by omega, kd_hi (by omega)⟩
def byA (L : Nat) (g : Nat → Nat) : sC := .inl (.byte, (L, .inl (fun i => ic (g i))))
section C24
variable {n0 N z d : Nat} {S0 : Nat → Value} {G : sH} {m : mm}
theorem byte_id {x : Nat} (h : x < 128) : (ic x).toInt8.toInt32 = ic x ∧ sNar .byte (ic x) = ic x ∧ fits .byte (.int (ic x)) = true := by
  have : ∀ c : Fin 128, (ic c.val).toInt8.toInt32 = ic c.val ∧ sNar .byte (ic c.val) = ic c.val ∧ fits .byte (.int (ic c.val)) = true := by decide +kernel
  exact this ⟨x, h⟩
section ARR
variable {v L : Nat} {g : Nat → Nat}
theorem by_alen (h : oA n0 v) (hv : G v = some (byA L g)) : alen (hp n0 G m) v = some (ic L) := by
  unfold alen
  rw [hp_out h.out, hv]
  rfl
theorem by_ld (h : oA n0 v) (hv : G v = some (byA L g)) (hL : L < 1000) {i : Nat} (hi : i < L) : (aldI .byte (hp n0 G m) v (ic i)).or (aldI .boolean (hp n0 G m) v (ic i)) = some (.int (ic (g i))) := by
  have e : aldI .byte (hp n0 G m) v (ic i) = some (.int (ic (g i))) := by
    unfold aldI
    rw [hp_out h.out, hv]
    have h9 : ¬ (ic i < 0 ∨ L ≤ i) := fun q => q.elim (ic_nn (by omega)) (by omega)
    unfold byA
    simp only [if_true, ic_nat (show i < 2147483648 by omega), h9, if_false]
  rw [e]
  rfl
theorem by_st (h : oA n0 v) (hv : G v = some (byA L g)) (hL : L < 1000) {i x : Nat} (hi : i < L) (hx : x < 128) : (astI .byte (hp n0 G m) v (ic i) (ic x)).or (astI .boolean (hp n0 G m) v (ic i) (ic x)) = some (hp n0 (hset G v (byA L (updN g i x))) m) := by
  have e : astI .byte (hp n0 G m) v (ic i) (ic x) = some (hp n0 (hset G v (byA L (updN g i x))) m) := by
    unfold astI
    rw [hp_out h.out, hv]
    have h9 : ¬ (ic i < 0 ∨ L ≤ i) := fun q => q.elim (ic_nn (by omega)) (by omega)
    have hu : upd (fun i => ic (g i)) i (ic x) = fun j => ic (updN g i x j) := by
      funext j
      unfold upd updN
      split <;> rfl
    unfold byA
    simp only [if_true, ic_nat (show i < 2147483648 by omega), h9, if_false, (byte_id hx).2.1]
    rw [hset_out h.out, hu]
  rw [e]
  rfl
theorem by_cpy {v2 : Nat} (h : oA n0 v) (hv : G v = some (byA L g)) (hL : L < 1000) (hg : ∀ i, g i < 128) (h2 : oA n0 v2) {L2 : Nat} {x : Nat → Nat} (hv2 : G v2 = some (byA L2 x)) (hne : v ≠ v2) {n : Nat} (hn : n ≤ L) {p : Nat} (hp2 : p + n ≤ L2) (hL2 : L2 < 1000) : acpy (hp n0 G m) v (ic 0) v2 (ic p) (ic n) = some (hp n0 (hset G v2 (byA L2 (fun i => if p ≤ i ∧ i < p + n then g (i - p) else x i))) m) := by
  unfold acpy
  rw [hp_out h.out, hp_out h2.out, hv, hv2]
  unfold byA
  dsimp only
  have e0 : ¬ ic 0 < 0 := by decide
  have en : ¬ ic n < 0 := ic_nn (by omega)
  have ep : ¬ ic p < 0 := ic_nn (by omega)
  rw [ic_nat (show n < 2147483648 by omega), ic_nat (show p < 2147483648 by omega), ic_nat (show 0 < 2147483648 by omega), if_pos]
  · rw [hset_out h2.out]
    have hf : va_cpy (fun i => ic (g i)) (fun i => ic (x i)) 0 p n = fun i => ic (if p ≤ i ∧ i < p + n then g (i - p) else x i) := by
      funext q
      unfold va_cpy
      by_cases hq : p ≤ q ∧ q < p + n
      · rw [if_pos hq, if_pos hq, Nat.zero_add]
      · rw [if_neg hq, if_neg hq]
    rw [hf]
  · refine ⟨rfl, rfl, hne, e0, ep, en, by omega, by omega, ?_⟩
    rw [List.all_eq_true]
    intro i _
    exact (byte_id (hg _)).2.2
end ARR
/-- the builder: k growths, c letters f -/
def SB (n0 : Nat) (G : sH) (m : mm) (N k c : Nat) (f : Nat → Nat) : Prop := ∃ g : Nat → Nat, oA n0 (rp m 290 0) ∧ rp m 290 0 < N ∧ G (rp m 290 0) = some (byA (cap k) g) ∧ (∀ i, g i < 128) ∧ (∀ i, i < c → g i = f i) ∧ ri m 290 1 = ic 0 ∧ ri m 290 3 = ic c ∧ c ≤ cap k ∧ k ≤ 3 ∧ n0 + 305 ≤ N
/-- all but the builder -/
def eqO (m m1 : mm) : Prop := (∀ q, q ≠ 290 → ri m1 q = ri m q ∧ rp m1 q = rp m q) ∧ rl m1 = rl m ∧ rd m1 = rd m
theorem eqO.trans {m1 m2 : mm} (h1 : eqO m m1) (h2 : eqO m1 m2) : eqO m m2 := ⟨fun q hq => ⟨((h2.1 q hq).1).trans (h1.1 q hq).1, ((h2.1 q hq).2).trans (h1.1 q hq).2⟩, h2.2.1.trans h1.2.1, h2.2.2.trans h1.2.2⟩
theorem eqO_rfl : eqO m m := ⟨fun _ _ => ⟨rfl, rfl⟩, rfl, rfl⟩
theorem eqO_wi {i : Nat} {v : Int32} : eqO m (wi m 290 i v) := ⟨fun q hq => ⟨ri_wn _ _ _ hq, rfl⟩, rfl, rfl⟩
theorem eqO_wp {i v : Nat} : eqO m (wp m 290 i v) := ⟨fun q hq => ⟨rfl, by funext j; rw [rp_wp, if_neg (fun z => hq z.1)]⟩, rfl, rfl⟩
/-- what a call to the builder gives -/
def AP (n0 : Nat) (G : sH) (m : mm) (N z k : Nat) (r : Option sO) (o : Option Value) (c : Nat) (f : Nat → Nat) : Prop := ∃ G1 m1 N1 z1 k1, r = some (.inl o, (hp n0 G1 m1, N1, z1)) ∧ SB n0 G1 m1 N1 k1 c f ∧ (∀ q, q < n0 → G1 q = G q) ∧ eqO m m1 ∧ k ≤ k1 ∧ N1 + k = N + k1 ∧ z1 + zcap k = z + zcap k1
theorem shl0 (x : Int32) : x <<< (ic 0 &&& ic 31) = x := by
  have h : (ic 0 &&& ic 31) = 0 := rfl
  rw [h]
  apply Int32.toInt_inj.mp
  simp
theorem j_newLength {L g : Nat} (hg : g ≤ L + 2) (hL : L < 1000) : Mt (n0, S0) (d + 1) 322 [.int (ic L), .int (ic g), .int (ic (L + 2))] (hp n0 G m, N, z) = oI n0 G m N z (ic (2 * L + 2)) := by
  have e : 2 * L + 2 = L + (L + 2) := by omega
  have h1 : (if g < L + 2 then ic (L + 2) else ic g) = ic (L + 2) := by
    by_cases h : g < L + 2
    · rw [if_pos h]
    · rw [if_neg h, show g = L + 2 by omega]
  have h2 : 0 < L + (L + 2) := by omega
  have h3 : ¬ (2147483639 : Int32) < ic (L + (L + 2)) := by
    rw [Int32.lt_iff_toInt_lt, ic_toInt (by omega)]
    have : (2147483639 : Int32).toInt = 2147483639 := by decide
    omega
  rw [NArrSup_newLength, e]
  simp (disch := first | assumption | (show (_ : Nat) < _; omega) | (show (_ : Nat) ≠ _; omega) | (show (_ : Nat) ≤ _; omega) | exact Or.inl rfl | exact Or.inr rfl) only [hG0, hG1, hG2, hF0, hF1, hA0, hA1, xL, xC, icL, Option.bind_some, Nat.le_add_right, Nat.le_refl, if_true, if_false, and_self, true_and, and_true, or_false, false_or, or_true, true_or, and_false, false_and, not_true_eq_false, not_false_eq_true, Nat.reduceAdd, Nat.reduceLeDiff, Nat.reduceLT, Option.toList_some, Option.toList_none, List.cons_append, List.nil_append, callK_ret, callR_ret, callK_thr, decide_true, Bool.true_and, xNr, bI0, bIT, bIF, ne_eq, Classical.not_not, not_false_eq_true, false_or, List.length_nil, icM, ic_lt, ic_eq, le_nl, ↓reduceIte, Nat.lt_irrefl, ri_ws, ri_wn, ri_as, ri_an, upd_s, upd_n, rp_wi, rp_wa, rl_wi, rl_wa, rl_wp, rl_wpa, rl_wl, rp_wl, ri_wl, rp_wd, ri_wd, in_rng, Int32.lt_irrefl, Nat.not_lt_zero, pk_nc, Nat.reduceEqDiff, Nat.succ_ne_self, Nat.one_ne_zero, Nat.add_left_cancel_iff, ri_wpa, ri_wp, QArrSup_newLength_0, h1, ic_add, h2, h3]
end C24
