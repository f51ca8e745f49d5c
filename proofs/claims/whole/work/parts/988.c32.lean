/-! the class: writeBarrow; expanded by wip/whole/px.py out of wip/whole/c32.src -/
theorem icY : ((44 : Int32) = ic 44) ∧ ((43 : Int32) = ic 43) := ⟨rfl, rfl⟩
/-- the tools written -/
def tlF (P : Nat → Prop) [DecidablePred P] (s : tx) : Nat → tx
  | 0 => s
  | t + 1 => if P t then wI (wT (tlF P s t)) t else tlF P s t
/-- the parts written -/
def kdF (P : Nat → Nat) (s : tx) : Nat → tx
  | 0 => s
  | i + 1 => if 0 < P i then wI (wC (wC (kdF P s i) 32) (97 + i)) (P i) else kdF P s i
theorem tlF_le (P : Nat → Prop) [DecidablePred P] (s : tx) : ∀ t, (tlF P s t).1 ≤ s.1 + 7 * t := by
  intro t
  induction t with
  | zero => exact Nat.le_refl _
  | succ t ih =>
    have := dgn_b t
    unfold tlF
    split
    · show (tlF P s t).1 + 1 + 1 + dgn t ≤ _
      omega
    · omega
theorem kdF_le (P : Nat → Nat) (s : tx) : ∀ t, (kdF P s t).1 ≤ s.1 + 7 * t := by
  intro t
  induction t with
  | zero => exact Nat.le_refl _
  | succ t ih =>
    have := dgn_b (P t)
    unfold kdF
    split
    · show (kdF P s t).1 + 1 + 1 + dgn (P t) ≤ _
      omega
    · omega
/-- the head of a barrow's line -/
def hdF (w x y t : Nat) (f : Nat → Nat) : tx := wI (wC (wI (wC (wI (wC (wI (0, f) w) 64) x) 44) y) 43) t
theorem hdF_le (w x y t : Nat) (f : Nat → Nat) : (hdF w x y t f).1 ≤ 23 := by
  have := dgn_b w
  have := dgn_b x
  have := dgn_b y
  have := dgn_b t
  show 0 + dgn w + 1 + dgn x + 1 + dgn y + 1 + dgn t ≤ _
  omega
section C32
variable {n0 N z d : Nat} {S0 : Nat → Value} {G : sH} {m : mm}
variable {k : Nat} {G1 : sH} {m1 : mm} {N1 z1 k1 : Nat} {s : tx}
theorem wb_tools (h : ST n0 G m N z k G1 m1 N1 z1 k1 s) (h0 : S0 0 = .int (ic 1)) (hD : isDig n0 S0 G) (hT : isT n0 S0 G) {w : Nat} (hl : s.1 ≤ 50) {l2 : Nat} : ∀ t, t ≤ 6 → ∃ G2 m2 N2 z2 k2, Rx (n0, S0) (d + 7) 116 66 [some (.ref n0), some (.int (ic w)), some (.ref l2), some (.int (ic 0))] [] (hp n0 G1 m1, N1, z1) = Rx (n0, S0) (d + 7) 116 66 [some (.ref n0), some (.int (ic w)), some (.ref l2), some (.int (ic t))] [] (hp n0 G2 m2, N2, z2) ∧ ST n0 G m N z k G2 m2 N2 z2 k2 (tlF (fun t => ri m 5 t = ic w) s t) := by
  have qa : kd 1 = 1 := rfl
  have qb : kd 5 = 5 := rfl
  have k290 : kd 290 = 17 := rfl
  intro t
  induction t with
  | zero => intro _; exact ⟨G1, m1, N1, z1, k1, rfl, h⟩
  | succ t ih =>
    intro ht
    obtain ⟨G2, m2, N2, z2, k2, e1, h2⟩ := ih (by omega)
    have hr := st_ri h2
    have hr5 : ri m2 5 = ri m 5 := hr 5 (by decide)
    have hle := tlF_le (fun t => ri m 5 t = ic w) s t
    have ht6 : t < 6 := by omega
    by_cases hp : ri m 5 t = ic w
    · obtain ⟨G3, m3, N3, z3, k3, v, hv, e3, h3⟩ := st_t (S0 := S0) (d := d) h2 h0 hT (by omega)
      have hle3 : (wT (tlF (fun t => ri m 5 t = ic w) s t)).1 = (tlF (fun t => ri m 5 t = ic w) s t).1 + 2 := rfl
      have hdt := dgn_b t
      obtain ⟨G4, m4, N4, z4, k4, e4, h4⟩ := st_int (S0 := S0) (d := d + 2) h3 h0 hD (n := t) (by omega) (by omega)
      refine ⟨G4, m4, N4, z4, k4, e1.trans ?_, ?_⟩
      · rw [HMain_writeBarrow_66]
        simp (disch := first | assumption | (show (_ : Nat) < _; omega) | (show (_ : Nat) ≠ _; omega) | (show (_ : Nat) ≤ _; omega) | exact Or.inl rfl | exact Or.inr rfl) only [hG0, hG1, hG2, hF0, hF1, hA0, hA1, xL, xC, icL, Option.bind_some, Nat.le_add_right, Nat.le_refl, if_true, if_false, and_self, true_and, and_true, or_false, false_or, or_true, true_or, and_false, false_and, not_true_eq_false, not_false_eq_true, Nat.reduceAdd, Nat.reduceLeDiff, Nat.reduceLT, Option.toList_some, Option.toList_none, List.cons_append, List.nil_append, callK_ret, callR_ret, callK_thr, decide_true, Bool.true_and, xNr, bI0, bIT, bIF, ne_eq, Classical.not_not, not_false_eq_true, false_or, List.length_nil, icM, ic_lt, ic_eq, le_nl, ↓reduceIte, Nat.lt_irrefl, ri_ws, ri_wn, ri_as, ri_an, upd_s, upd_n, rp_wi, rp_wa, rl_wi, rl_wa, rl_wp, rl_wpa, rl_wl, rp_wl, ri_wl, rp_wd, ri_wd, in_rng, Int32.lt_irrefl, Nat.not_lt_zero, pk_nc, Nat.reduceEqDiff, Nat.succ_ne_self, Nat.one_ne_zero, Nat.add_left_cancel_iff, ri_wpa, ri_wp, QMain_writeBarrow_0, QMain_writeBarrow_1, QMain_writeBarrow_2, QMain_writeBarrow_3, ht6, hr5, hp, hv, e3, e4, ic_add]
      · unfold tlF
        rw [if_pos hp]
        exact h4
    · refine ⟨G2, m2, N2, z2, k2, e1.trans ?_, ?_⟩
      · rw [HMain_writeBarrow_66]
        simp (disch := first | assumption | (show (_ : Nat) < _; omega) | (show (_ : Nat) ≠ _; omega) | (show (_ : Nat) ≤ _; omega) | exact Or.inl rfl | exact Or.inr rfl) only [hG0, hG1, hG2, hF0, hF1, hA0, hA1, xL, xC, icL, Option.bind_some, Nat.le_add_right, Nat.le_refl, if_true, if_false, and_self, true_and, and_true, or_false, false_or, or_true, true_or, and_false, false_and, not_true_eq_false, not_false_eq_true, Nat.reduceAdd, Nat.reduceLeDiff, Nat.reduceLT, Option.toList_some, Option.toList_none, List.cons_append, List.nil_append, callK_ret, callR_ret, callK_thr, decide_true, Bool.true_and, xNr, bI0, bIT, bIF, ne_eq, Classical.not_not, not_false_eq_true, false_or, List.length_nil, icM, ic_lt, ic_eq, le_nl, ↓reduceIte, Nat.lt_irrefl, ri_ws, ri_wn, ri_as, ri_an, upd_s, upd_n, rp_wi, rp_wa, rl_wi, rl_wa, rl_wp, rl_wpa, rl_wl, rp_wl, ri_wl, rp_wd, ri_wd, in_rng, Int32.lt_irrefl, Nat.not_lt_zero, pk_nc, Nat.reduceEqDiff, Nat.succ_ne_self, Nat.one_ne_zero, Nat.add_left_cancel_iff, ri_wpa, ri_wp, QMain_writeBarrow_0, QMain_writeBarrow_1, QMain_writeBarrow_2, QMain_writeBarrow_3, ht6, hr5, hp, ic_add]
      · unfold tlF
        rw [if_neg hp]
        exact h2
theorem kl_id {i : Nat} (h : i < 4) : ((ic (97 + i)).toUInt32 % 65536).toInt32 = ic (97 + i) := by
  rcases (show i = 0 ∨ i = 1 ∨ i = 2 ∨ i = 3 by omega) with rfl | rfl | rfl | rfl <;> decide
theorem wb_kinds (h : ST n0 G m N z k G1 m1 N1 z1 k1 s) (h0 : S0 0 = .int (ic 1)) (hD : isDig n0 S0 G) {w : Nat} (hw : w < 3) (hl : s.1 ≤ 100) {P : Nat → Nat} (hP : ∀ i, i < 4 → ri m (3 + (15 + 2 * w) + 1) i = ic (P i) ∧ P i < 100000) {l1 : Int32} : ∀ t, t ≤ 4 → ∃ G2 m2 N2 z2 k2, Rx (n0, S0) (d + 7) 116 108 [some (.ref n0), some (.int l1), some (.ref (n0 + (3 + (15 + 2 * w)))), some (.int (ic 0))] [] (hp n0 G1 m1, N1, z1) = Rx (n0, S0) (d + 7) 116 108 [some (.ref n0), some (.int l1), some (.ref (n0 + (3 + (15 + 2 * w)))), some (.int (ic t))] [] (hp n0 G2 m2, N2, z2) ∧ ST n0 G m N z k G2 m2 N2 z2 k2 (kdF P s t) := by
  have qa : kd 1 = 1 := rfl
  have k290 : kd 290 = 17 := rfl
  obtain ⟨s5, s6⟩ := kd_W hw
  intro t
  induction t with
  | zero => intro _; exact ⟨G1, m1, N1, z1, k1, rfl, h⟩
  | succ t ih =>
    intro ht
    obtain ⟨G2, m2, N2, z2, k2, e1, h2⟩ := ih (by omega)
    have hr := st_ri h2 (3 + (15 + 2 * w) + 1) (by omega)
    have hle := kdF_le P s t
    have ht6 : t < 4 := by omega
    obtain ⟨hp1, hp2⟩ := hP t ht6
    by_cases hp : 0 < P t
    · obtain ⟨G3, m3, N3, z3, k3, e3, h3⟩ := st_char (S0 := S0) (d := d + 2) h2 h0 (x := 32) (by omega) (by omega)
      have hle3 : (wC (kdF P s t) 32).1 = (kdF P s t).1 + 1 := rfl
      obtain ⟨G4, m4, N4, z4, k4, e4, h4⟩ := st_char (S0 := S0) (d := d + 2) h3 h0 (x := 97 + t) (by omega) (by omega)
      have hle4 : (wC (wC (kdF P s t) 32) (97 + t)).1 = (kdF P s t).1 + 1 + 1 := rfl
      have hdt := dgn_b (P t)
      obtain ⟨G5, m5, N5, z5, k5, e5, h5⟩ := st_int (S0 := S0) (d := d + 2) h4 h0 hD (n := P t) hp2 (by omega)
      have hr4 := st_ri h4 (3 + (15 + 2 * w) + 1) (by omega)
      have hkl := kl_id ht6
      refine ⟨G5, m5, N5, z5, k5, e1.trans ?_, ?_⟩
      · rw [HMain_writeBarrow_108]
        simp (disch := first | assumption | (show (_ : Nat) < _; omega) | (show (_ : Nat) ≠ _; omega) | (show (_ : Nat) ≤ _; omega) | exact Or.inl rfl | exact Or.inr rfl) only [hG0, hG1, hG2, hF0, hF1, hA0, hA1, xL, xC, icL, Option.bind_some, Nat.le_add_right, Nat.le_refl, if_true, if_false, and_self, true_and, and_true, or_false, false_or, or_true, true_or, and_false, false_and, not_true_eq_false, not_false_eq_true, Nat.reduceAdd, Nat.reduceLeDiff, Nat.reduceLT, Option.toList_some, Option.toList_none, List.cons_append, List.nil_append, callK_ret, callR_ret, callK_thr, decide_true, Bool.true_and, xNr, bI0, bIT, bIF, ne_eq, Classical.not_not, not_false_eq_true, false_or, List.length_nil, icM, ic_lt, ic_eq, le_nl, ↓reduceIte, Nat.lt_irrefl, ri_ws, ri_wn, ri_as, ri_an, upd_s, upd_n, rp_wi, rp_wa, rl_wi, rl_wa, rl_wp, rl_wpa, rl_wl, rp_wl, ri_wl, rp_wd, ri_wd, in_rng, Int32.lt_irrefl, Nat.not_lt_zero, pk_nc, Nat.reduceEqDiff, Nat.succ_ne_self, Nat.one_ne_zero, Nat.add_left_cancel_iff, ri_wpa, ri_wp, QMain_writeBarrow_0, QMain_writeBarrow_1, QMain_writeBarrow_2, QMain_writeBarrow_3, ht6, hr, hr4, hp1, hp, e3, c_kindLetter, hkl, e4, e5, ic_add]
      · unfold kdF
        rw [if_pos hp]
        exact h5
    · refine ⟨G2, m2, N2, z2, k2, e1.trans ?_, ?_⟩
      · rw [HMain_writeBarrow_108]
        simp (disch := first | assumption | (show (_ : Nat) < _; omega) | (show (_ : Nat) ≠ _; omega) | (show (_ : Nat) ≤ _; omega) | exact Or.inl rfl | exact Or.inr rfl) only [hG0, hG1, hG2, hF0, hF1, hA0, hA1, xL, xC, icL, Option.bind_some, Nat.le_add_right, Nat.le_refl, if_true, if_false, and_self, true_and, and_true, or_false, false_or, or_true, true_or, and_false, false_and, not_true_eq_false, not_false_eq_true, Nat.reduceAdd, Nat.reduceLeDiff, Nat.reduceLT, Option.toList_some, Option.toList_none, List.cons_append, List.nil_append, callK_ret, callR_ret, callK_thr, decide_true, Bool.true_and, xNr, bI0, bIT, bIF, ne_eq, Classical.not_not, not_false_eq_true, false_or, List.length_nil, icM, ic_lt, ic_eq, le_nl, ↓reduceIte, Nat.lt_irrefl, ri_ws, ri_wn, ri_as, ri_an, upd_s, upd_n, rp_wi, rp_wa, rl_wi, rl_wa, rl_wp, rl_wpa, rl_wl, rp_wl, ri_wl, rp_wd, ri_wd, in_rng, Int32.lt_irrefl, Nat.not_lt_zero, pk_nc, Nat.reduceEqDiff, Nat.succ_ne_self, Nat.one_ne_zero, Nat.add_left_cancel_iff, ri_wpa, ri_wp, QMain_writeBarrow_0, QMain_writeBarrow_1, QMain_writeBarrow_2, QMain_writeBarrow_3, ht6, hr, hp1, hp, ic_add]
      · unfold kdF
        rw [if_neg hp]
        exact h2
theorem c_writeBarrow {c : Nat} {f : Nat → Nat} (hb : SB n0 G m N k c f) (h0 : S0 0 = .int (ic 1)) (hD : isDig n0 S0 G) (hT : isT n0 S0 G) {w : Nat} (hw : w < 3) {x y t : Nat} (hx : ri m (3 + (15 + 2 * w)) 0 = ic x ∧ x < 100000) (hy : ri m (3 + (15 + 2 * w)) 1 = ic y ∧ y < 100000) (ht : ri m (3 + (15 + 2 * w)) 2 = ic t ∧ t < 100000) {P : Nat → Nat} (hP : ∀ i, i < 4 → ri m (3 + (15 + 2 * w) + 1) i = ic (P i) ∧ P i < 100000) : ∃ G1 m1 N1 z1 k1, Mt (n0, S0) (d + 8) 116 [.ref n0, .int (ic w)] (hp n0 G m, N, z) = oI n0 G1 m1 N1 z1 (ic (kdF P (tlF (fun t => ri m 5 t = ic w) (hdF w x y t f) 6) 4).1) ∧ ST n0 G m N z k G1 m1 N1 z1 k1 (kdF P (tlF (fun t => ri m 5 t = ic w) (hdF w x y t f) 6) 4) := by
  have k290 : kd 290 = 17 := rfl
  obtain ⟨s5, s6⟩ := kd_W hw
  obtain ⟨m1, a1, h1⟩ := st_start (S0 := S0) (z := z) (d := d + 4) (f2 := f) hb
  have dw := dgn_b w
  have dx := dgn_b x
  have dy := dgn_b y
  have dt := dgn_b t
  obtain ⟨G2, m2, N2, z2, k2, a2, h2⟩ := st_int (S0 := S0) (d := d + 2) h1 h0 hD (n := w) (by omega) (by show 0 + dgn w ≤ 142; omega)
  obtain ⟨G3, m3, N3, z3, k3, a3, h3⟩ := st_char (S0 := S0) (d := d + 2) h2 h0 (x := 64) (by omega) (by show 0 + dgn w + 1 ≤ 142; omega)
  obtain ⟨G4, m4, N4, z4, k4, a4, h4⟩ := st_int (S0 := S0) (d := d + 2) h3 h0 hD (n := x) hx.2 (by show 0 + dgn w + 1 + dgn x ≤ 142; omega)
  obtain ⟨G5, m5, N5, z5, k5, a5, h5⟩ := st_char (S0 := S0) (d := d + 2) h4 h0 (x := 44) (by omega) (by show 0 + dgn w + 1 + dgn x + 1 ≤ 142; omega)
  obtain ⟨G6, m6, N6, z6, k6, a6, h6⟩ := st_int (S0 := S0) (d := d + 2) h5 h0 hD (n := y) hy.2 (by show 0 + dgn w + 1 + dgn x + 1 + dgn y ≤ 142; omega)
  obtain ⟨G7, m7, N7, z7, k7, a7, h7⟩ := st_char (S0 := S0) (d := d + 2) h6 h0 (x := 43) (by omega) (by show 0 + dgn w + 1 + dgn x + 1 + dgn y + 1 ≤ 142; omega)
  obtain ⟨G8, m8, N8, z8, k8, a8, h8⟩ := st_int (S0 := S0) (d := d + 2) h7 h0 hD (n := t) ht.2 (by show 0 + dgn w + 1 + dgn x + 1 + dgn y + 1 + dgn t ≤ 142; omega)
  have h8' : ST n0 G m N z k G8 m8 N8 z8 k8 (hdF w x y t f) := h8
  have hle := hdF_le w x y t f
  obtain ⟨G9, m9, N9, z9, k9, a9, h9⟩ := wb_tools (d := d) h8' h0 hD hT (w := w) (l2 := n0 + (3 + (15 + 2 * w))) (by omega) 6 (Nat.le_refl _)
  have hle2 := tlF_le (fun t => ri m 5 t = ic w) (hdF w x y t f) 6
  obtain ⟨GA, mA, NA, zA, kA, aA, hA⟩ := wb_kinds (d := d) h9 h0 hD hw (l1 := ic w) (by omega) hP 4 (Nat.le_refl _)
  refine ⟨GA, mA, NA, zA, kA, ?_, hA⟩
  have r3 := st_ri h3 (3 + (15 + 2 * w)) (by omega)
  have r5 := st_ri h5 (3 + (15 + 2 * w)) (by omega)
  have r7 := st_ri h7 (3 + (15 + 2 * w)) (by omega)
  have hx1 := hx.1
  have hy1 := hy.1
  have ht1 := ht.1
  have hck := c_checkedBarrow (n0 := n0) (S0 := S0) (G := G) (m := m) (N := N) (z := z) (d := d + 5) (w := ic w)
  have hlen := st_len (S0 := S0) (d := d + 5) hA
  generalize (kdF P (tlF (fun t => ri m 5 t = ic w) (hdF w x y t f) 6) 4).1 = LL at hlen ⊢
  rw [NMain_writeBarrow]
  simp (disch := first | assumption | (show (_ : Nat) < _; omega) | (show (_ : Nat) ≠ _; omega) | (show (_ : Nat) ≤ _; omega) | exact Or.inl rfl | exact Or.inr rfl) only [hG0, hG1, hG2, hF0, hF1, hA0, hA1, xL, xC, icL, Option.bind_some, Nat.le_add_right, Nat.le_refl, if_true, if_false, and_self, true_and, and_true, or_false, false_or, or_true, true_or, and_false, false_and, not_true_eq_false, not_false_eq_true, Nat.reduceAdd, Nat.reduceLeDiff, Nat.reduceLT, Option.toList_some, Option.toList_none, List.cons_append, List.nil_append, callK_ret, callR_ret, callK_thr, decide_true, Bool.true_and, xNr, bI0, bIT, bIF, ne_eq, Classical.not_not, not_false_eq_true, false_or, List.length_nil, icM, ic_lt, ic_eq, le_nl, ↓reduceIte, Nat.lt_irrefl, ri_ws, ri_wn, ri_as, ri_an, upd_s, upd_n, rp_wi, rp_wa, rl_wi, rl_wa, rl_wp, rl_wpa, rl_wl, rp_wl, ri_wl, rp_wd, ri_wd, in_rng, Int32.lt_irrefl, Nat.not_lt_zero, pk_nc, Nat.reduceEqDiff, Nat.succ_ne_self, Nat.one_ne_zero, Nat.add_left_cancel_iff, ri_wpa, ri_wp, QMain_writeBarrow_0, QMain_writeBarrow_1, QMain_writeBarrow_2, QMain_writeBarrow_3, icY, hck, hw, ic_nat, a1, a2, a3, r3, hx1, a4, a5, r5, hy1, a6, a7, r7, ht1, a8, a9]
  rw [HMain_writeBarrow_66]
  simp (disch := first | assumption | (show (_ : Nat) < _; omega) | (show (_ : Nat) ≠ _; omega) | (show (_ : Nat) ≤ _; omega) | exact Or.inl rfl | exact Or.inr rfl) only [hG0, hG1, hG2, hF0, hF1, hA0, hA1, xL, xC, icL, Option.bind_some, Nat.le_add_right, Nat.le_refl, if_true, if_false, and_self, true_and, and_true, or_false, false_or, or_true, true_or, and_false, false_and, not_true_eq_false, not_false_eq_true, Nat.reduceAdd, Nat.reduceLeDiff, Nat.reduceLT, Option.toList_some, Option.toList_none, List.cons_append, List.nil_append, callK_ret, callR_ret, callK_thr, decide_true, Bool.true_and, xNr, bI0, bIT, bIF, ne_eq, Classical.not_not, not_false_eq_true, false_or, List.length_nil, icM, ic_lt, ic_eq, le_nl, ↓reduceIte, Nat.lt_irrefl, ri_ws, ri_wn, ri_as, ri_an, upd_s, upd_n, rp_wi, rp_wa, rl_wi, rl_wa, rl_wp, rl_wpa, rl_wl, rp_wl, ri_wl, rp_wd, ri_wd, in_rng, Int32.lt_irrefl, Nat.not_lt_zero, pk_nc, Nat.reduceEqDiff, Nat.succ_ne_self, Nat.one_ne_zero, Nat.add_left_cancel_iff, ri_wpa, ri_wp, QMain_writeBarrow_0, QMain_writeBarrow_1, QMain_writeBarrow_2, QMain_writeBarrow_3, aA]
  rw [HMain_writeBarrow_108]
  simp (disch := first | assumption | (show (_ : Nat) < _; omega) | (show (_ : Nat) ≠ _; omega) | (show (_ : Nat) ≤ _; omega) | exact Or.inl rfl | exact Or.inr rfl) only [hG0, hG1, hG2, hF0, hF1, hA0, hA1, xL, xC, icL, Option.bind_some, Nat.le_add_right, Nat.le_refl, if_true, if_false, and_self, true_and, and_true, or_false, false_or, or_true, true_or, and_false, false_and, not_true_eq_false, not_false_eq_true, Nat.reduceAdd, Nat.reduceLeDiff, Nat.reduceLT, Option.toList_some, Option.toList_none, List.cons_append, List.nil_append, callK_ret, callR_ret, callK_thr, decide_true, Bool.true_and, xNr, bI0, bIT, bIF, ne_eq, Classical.not_not, not_false_eq_true, false_or, List.length_nil, icM, ic_lt, ic_eq, le_nl, ↓reduceIte, Nat.lt_irrefl, ri_ws, ri_wn, ri_as, ri_an, upd_s, upd_n, rp_wi, rp_wa, rl_wi, rl_wa, rl_wp, rl_wpa, rl_wl, rp_wl, ri_wl, rp_wd, ri_wd, in_rng, Int32.lt_irrefl, Nat.not_lt_zero, pk_nc, Nat.reduceEqDiff, Nat.succ_ne_self, Nat.one_ne_zero, Nat.add_left_cancel_iff, ri_wpa, ri_wp, QMain_writeBarrow_0, QMain_writeBarrow_1, QMain_writeBarrow_2, QMain_writeBarrow_3, hlen]
end C32
