/-! the answers: class against reference; written by wip/whole/gen_p16.py, expanded by px.py -/
/-- a call that never throws -/
def Pq (n0 : Nat) (S0 : Nat → Value) (N0 z0 q : Nat) (cm : Nat) (cas : List Value) (rf : Nat) (ras : List Value) (V : Value) (G : sH) (m : mm) (N z : Nat) : Prop :=
  ∃ m1 m2, (Mt (n0, S0) 41 cm (.ref n0 :: cas) (hp n0 G m, N, z) = some (.inl (some V), (hp n0 G m1, N, z))) ∧ (Mt (n0, S0) 41 rf (.ref (n0 + 292) :: ras) (hp n0 G m1, N, z) = some (.inl (some V), (hp n0 G m2, N, z))) ∧ Inv n0 N0 z0 (q + 1) G m2 N z
def bL (v : Int32) : Int64 := if v = ic 0 then 0 else 1
def e4 (_ : Nat) : Nat := 4
def e1 (_ : Nat) : Nat := 1
def e3 (_ : Nat) : Nat := 3
def e31 (y : Nat) : Nat := if y = 1 then 3 else 1
def e34 (y : Nat) : Nat := if y = 1 then 3 else 4
theorem wi_wi (m : mm) (k i : Nat) (v w : Int32) : wi (wi m k i v) k i w = wi m k i w := by
  rw [wi_chain, wi_chain m, wi_chain m, wa_wa, ri_as]
  congr 1
  funext j
  rw [upd_at, upd_at, upd_at]
  split <;> rfl
section P16
variable {n0 N z N0 z0 q T L nx cnt : Nat} {S0 : Nat → Value} {G : sH} {m m2 : mm} {r : Nat → Int32}
/-- only the reference's 'thrown', the law's cell -/
theorem Inv_t (hI : Inv n0 N0 z0 q G m N z) (x : Int32) (v : Int64) {N2 z2 : Nat} (hN : N ≤ N2) (hN2 : N2 ≤ N + 1) (hz : z2 ≤ z + 6) : Inv n0 N0 z0 (q + 1) G (wi (wl m 303 0 v) 292 6 x) N2 z2 := by
  obtain ⟨⟨T, L, nx, cnt, hTL, hc⟩, hO⟩ := hI
  have hc2 : Core T L nx cnt (wi (wl m 303 0 v) 292 6 x) := Core.congr (m := m) (Nat.le_refl _) hc.2.1 hc.1.2.2.2 (fun x hx => ri_wn _ _ _ (by omega)) (fun y hy => ⟨rfl, by
    funext j
    show rl (wl m 303 0 v) y j = _
    rw [rl_wl, if_neg (by omega)]⟩) (fun i hi => by rw [ri_ws, upd_n _ _ (by omega)]; rfl) hc
  exact Inv_up hO ⟨T, L, nx, cnt, by omega, hc2⟩ (ri_wn _ _ _ (by decide)) rfl (by rw [ri_ws, upd_n _ _ (by decide)]; rfl) (ri_wn _ _ _ (by decide)) hN hN2 hz
theorem Inv_t0 (hI : Inv n0 N0 z0 q G m N z) (x : Int32) {N2 z2 : Nat} (hN : N ≤ N2) (hN2 : N2 ≤ N + 1) (hz : z2 ≤ z + 6) : Inv n0 N0 z0 (q + 1) G (wi m 292 6 x) N2 z2 := by
  obtain ⟨⟨T, L, nx, cnt, hTL, hc⟩, hO⟩ := hI
  exact Inv_up hO ⟨T, L, nx, cnt, by omega, hc.congr (Nat.le_refl _) hc.2.1 hc.1.2.2.2 (fun x hx => ri_wn _ _ _ (by omega)) (fun x hx => ⟨rfl, rfl⟩) (fun i hi => by rw [ri_ws, upd_n _ _ (by omega)])⟩ (ri_wn _ _ _ (by decide)) rfl (by rw [ri_ws, upd_n _ _ (by decide)]) (ri_wn _ _ _ (by decide)) hN hN2 hz
theorem get_no {cv : Int32 → Int64} {cm rf : Nat} {cas ras : List Value} {ec : Nat × (Nat → Nat)} {why : Nat} {b : Int32} (hI : Inv n0 N0 z0 q G m N z) (hw : 0 < why) (hw5 : why ≤ ec.1) (hcl : ∀ d, Mt (n0, S0) (d + 14) cm (.ref n0 :: cas) (hp n0 G m, N, z) = oT n0 G m N z (xn (ec.2 why))) (href : ∀ d N z, Mt (n0, S0) (d + 14) rf (.ref (n0 + 292) :: ras) (hp n0 G m, N, z) = oI n0 G (tM m why) N z b) : Pr n0 S0 N0 z0 q cv cm cas rf ras ec G m N z :=
  Or.inl ⟨why, m, _, b, hw, hw5, hcl 26, href 27 _ _, by rw [ri_ws, upd_s], Inv_t0 hI _ (by omega) (by omega) (by omega)⟩
theorem get_ok {cv : Int32 → Int64} {cm rf : Nat} {cas ras : List Value} {ec : Nat × (Nat → Nat)} {v : Int32} (hI : Inv n0 N0 z0 q G m N z) (hcl : ∀ d, Mt (n0, S0) (d + 14) cm (.ref n0 :: cas) (hp n0 G m, N, z) = oI n0 G m N z v) (href : ∀ d, Mt (n0, S0) (d + 14) rf (.ref (n0 + 292) :: ras) (hp n0 G (wl m 303 0 (cv v)), N, z) = oI n0 G (tM (wl m 303 0 (cv v)) 0) N z v) : Pr n0 S0 N0 z0 q cv cm cas rf ras ec G m N z :=
  Or.inr ⟨G, m, N, z, v, _, hcl 26, fun _ _ => rfl, href 27, by rw [ri_ws, upd_s], by
    show rl (wl m 303 0 (cv v)) 303 0 = _
    rw [rl_wl, if_pos ⟨rfl, rfl⟩], Inv_t hI _ _ (by omega) (by omega) (by omega)⟩
theorem get_q {cm rf : Nat} {cas ras : List Value} {V : Value} (hI : Inv n0 N0 z0 q G m N z) (hcl : ∀ d, Mt (n0, S0) (d + 14) cm (.ref n0 :: cas) (hp n0 G m, N, z) = some (.inl (some V), (hp n0 G m, N, z))) (href : ∀ d, Mt (n0, S0) (d + 14) rf (.ref (n0 + 292) :: ras) (hp n0 G m, N, z) = some (.inl (some V), (hp n0 G (tM m 0), N, z))) : Pq n0 S0 N0 z0 q cm cas rf ras V G m N z := ⟨m, _, hcl 27, href 27, Inv_t0 hI _ (by omega) (by omega) (by omega)⟩
theorem hO_in {w : Int32} {n : Nat} (hn : n < 1000) (h : ¬ w < ic 0 ∧ w < ic n) : ∃ x, x < n ∧ w = ic x := rng_of (by omega) h
theorem RW.num (hW : RW T r) {i j : Nat} (hi : i < nO r) (hj : j < nO r) : (r (42 + 8 * i) < r (42 + 8 * j)) ↔ i < j := by
  obtain ⟨n, nx, late, work, ⟨h1, h2, h3, h4, h5, h6, h7, h8, h9⟩, aS, aH, aB, aE, aJ⟩ := hW
  rw [nO_of h5 h1] at hi hj
  constructor
  · intro h
    rcases Nat.lt_trichotomy i j with g | g | g
    · exact g
    · subst g; exact absurd h Int32.lt_irrefl
    · exact absurd (aJ.2.1 j i g hi) (Int32.lt_asymm h)
  · exact fun g => aJ.2.1 i j g hj
theorem fst3_c {f g : Nat → Int32} (h : ∀ w, w < 3 → f w = g w) : fst3 f = fst3 g := by
  unfold fst3
  rw [h 0 (by decide), h 1 (by decide), h 2 (by decide)]
  by_cases e : g 1 < g 0
  · rw [if_pos e, h 1 (by decide)]
  · rw [if_neg e, h 0 (by decide)]
theorem er_ah (hC : CL m 1 r) {i j : Nat} (hi : i < 3) (hj : j < 3) : eR m 1 i j ↔ (j ≠ i ∧ ahF r j i) := by
  have f1 := (hC.2.2.2.1 i hi).1
  have f2 := (hC.2.2.2.1 j hj).1
  show ((j < i ∧ ¬ rB m (1 + 2 + (15 + 2 * i)) (1 + 2 + (15 + 2 * j))) ∨ rB m (1 + 2 + (15 + 2 * j)) (1 + 2 + (15 + 2 * i))) ↔ _
  show ((j < i ∧ ¬ (ri m (1 + 2 + (15 + 2 * j)) 3 < ri m (1 + 2 + (15 + 2 * i)) 3 ∨ (ri m (1 + 2 + (15 + 2 * i)) 3 = ri m (1 + 2 + (15 + 2 * j)) 3 ∧ ri m (1 + 2 + (15 + 2 * i)) 2 < ri m (1 + 2 + (15 + 2 * j)) 2))) ∨ (ri m (1 + 2 + (15 + 2 * i)) 3 < ri m (1 + 2 + (15 + 2 * j)) 3 ∨ (ri m (1 + 2 + (15 + 2 * j)) 3 = ri m (1 + 2 + (15 + 2 * i)) 3 ∧ ri m (1 + 2 + (15 + 2 * j)) 2 < ri m (1 + 2 + (15 + 2 * i)) 2))) ↔ _
  rw [f1 2 (by decide), f1 3 (by decide), f2 2 (by decide), f2 3 (by decide)]
  by_cases e : i = j
  · subst e
    exact ⟨fun h => by
      rcases h with h | h | h
      · omega
      · exact absurd h Int32.lt_irrefl
      · exact absurd h.2 Int32.lt_irrefl, fun h => absurd rfl h.1⟩
  · unfold ahF
    generalize r (18 + 8 * i + 2) = ci
    generalize r (18 + 8 * i + 3) = ei
    generalize r (18 + 8 * j + 2) = cj
    generalize r (18 + 8 * j + 3) = ej
    by_cases g : ej = ei
    · rw [if_pos g]
      subst g
      constructor
      · intro h
        rcases h with ⟨a, b⟩ | c | ⟨_, c⟩
        · refine ⟨fun z => e z.symm, ?_⟩
          by_cases h1 : cj < ci
          · exact Or.inl h1
          · exact Or.inr ⟨Int32.le_antisymm (Int32.not_lt.mp (fun z => b (Or.inr ⟨rfl, z⟩))) (Int32.not_lt.mp h1), a⟩
        · exact absurd c Int32.lt_irrefl
        · exact ⟨fun z => e z.symm, Or.inl c⟩
      · intro h
        rcases h with ⟨_, b | ⟨b, c⟩⟩
        · exact Or.inr (Or.inr ⟨rfl, b⟩)
        · refine Or.inl ⟨c, fun z => z.elim (fun y => absurd y Int32.lt_irrefl) (fun y => ?_)⟩
          rw [b] at y
          exact absurd y.2 Int32.lt_irrefl
    · rw [if_neg g]
      have hlt : ¬ ej < ei → ei < ej := fun h1 => by
        have h2 : ¬ ej.toInt = ei.toInt := fun z => g (Int32.toInt_inj.mp z)
        rw [Int32.lt_iff_toInt_lt] at h1 ⊢
        omega
      constructor
      · intro h
        rcases h with ⟨a, b⟩ | c | c
        · exact ⟨fun z => e z.symm, hlt (fun z => b (Or.inl z))⟩
        · exact ⟨fun z => e z.symm, c⟩
        · exact absurd c.1 g
      · intro h
        exact Or.inr (Or.inl h.2)
theorem an1 (x : Int32) : ic 97 + (x - ic 97) = x := by
  rw [Int32.add_comm, Int32.sub_add_cancel]
theorem P_tool (hI : Inv n0 N0 z0 q G m N z) (hq : q ≤ 512) {job : Int32} : Pr n0 S0 N0 z0 q Int32.toInt64 92 [.int job] 185 [.int job] (1, e4) G m N z := by
  obtain ⟨⟨T, L, nx, cnt, hTL, hc⟩, _⟩ := id hI
  have hC := hc.2.2.2.2.1.2
  have hW := hc.2.2.2.2.1.1
  have hJ := hc.1.1
  obtain ⟨n, h12, h0, hN⟩ := hW.n
  have hn : ri m 1 1 = ic n := hC.1.1.trans h0
  have hf := hC.find (job := job)
  rw [hN] at hf
  cases h : fO (ri m 293) job with
  | none => exact get_no (why := 1) hI (by decide) (by decide) (fun d => c_toolNo (d := d + 11) hJ hn h12 (hf.trans h)) (fun d N z => m_toolNo (d := d + 10) h0 h12 (by rw [← hN]; exact h))
  | some a =>
    have ha := (fO_lt h).1
    have hj := hC.2.2.2.2 a ha
    refine get_ok hI (fun d => c_toolOk (d := d + 11) hJ hn h12 (hf.trans h)) (fun d => ?_)
    have := m_tool (n0 := n0) (S0 := S0) (G := G) (N := N) (z := z) (d := d + 10) (m := wl m 303 0 (Int32.toInt64 (ri m (rp m 2 a) 4))) (a := a) h0 h12 (by rw [← hN]; exact h)
    rw [this]
    have e : ri m (rp m 2 a) 4 = ri m 293 (42 + 8 * a + 4) := (hj 4 (by decide)).trans (jt_n _ (by decide) (by decide))
    rw [e]
    rfl
theorem P_due (hI : Inv n0 N0 z0 q G m N z) (hq : q ≤ 512) {job : Int32} : Pr n0 S0 N0 z0 q Int32.toInt64 93 [.int job] 186 [.int job] (1, e4) G m N z := by
  obtain ⟨⟨T, L, nx, cnt, hTL, hc⟩, _⟩ := id hI
  have hC := hc.2.2.2.2.1.2
  have hW := hc.2.2.2.2.1.1
  have hJ := hc.1.1
  obtain ⟨n, h12, h0, hN⟩ := hW.n
  have hn : ri m 1 1 = ic n := hC.1.1.trans h0
  have hf := hC.find (job := job)
  rw [hN] at hf
  cases h : fO (ri m 293) job with
  | none => exact get_no (why := 1) hI (by decide) (by decide) (fun d => c_dueNo (d := d + 11) hJ hn h12 (hf.trans h)) (fun d N z => m_dueNo (d := d + 10) h0 h12 (by rw [← hN]; exact h))
  | some a =>
    have ha := (fO_lt h).1
    have hj := hC.2.2.2.2 a ha
    refine get_ok hI (fun d => c_dueOk (d := d + 11) hJ hn h12 (hf.trans h)) (fun d => ?_)
    have := m_due (n0 := n0) (S0 := S0) (G := G) (N := N) (z := z) (d := d + 10) (m := wl m 303 0 (Int32.toInt64 (ri m (rp m 2 a) 6))) (a := a) h0 h12 (by rw [← hN]; exact h)
    rw [this]
    have e : ri m (rp m 2 a) 6 = ri m 293 (42 + 8 * a + 6) := (hj 6 (by decide)).trans (jt_n _ (by decide) (by decide))
    rw [e]
    rfl
theorem P_kind (hI : Inv n0 N0 z0 q G m N z) (hq : q ≤ 512) {job : Int32} : Pr n0 S0 N0 z0 q Int32.toInt64 89 [.int job] 182 [.int job] (1, e4) G m N z := by
  obtain ⟨⟨T, L, nx, cnt, hTL, hc⟩, _⟩ := id hI
  have hC := hc.2.2.2.2.1.2
  have hW := hc.2.2.2.2.1.1
  have hJ := hc.1.1
  obtain ⟨n, h12, h0, hN⟩ := hW.n
  have hn : ri m 1 1 = ic n := hC.1.1.trans h0
  have hf := hC.find (job := job)
  rw [hN] at hf
  cases h : fO (ri m 293) job with
  | none =>
    exact get_no (why := 1) (b := ic 32) hI (by decide) (by decide) (fun d => c_kindNo (d := d + 11) hJ hn h12 (hf.trans h)) (fun d N z => by
      have k292 : kd 292 = 18 := rfl
      have hnar : narrow .char (.int (ic 32)) = .int (ic 32) := rfl
      have hn0 : fdF (ri m 293) n job = none := by rw [← hN]; exact h
      rw [NModel_kind]
      simp (disch := first | assumption | (show (_ : Nat) < _; omega) | (show (_ : Nat) ≠ _; omega) | (show (_ : Nat) ≤ _; omega) | exact Or.inl rfl | exact Or.inr rfl) only [hG0, hG1, hG2, hF0, hF1, hA0, hA1, xL, xC, icL, Option.bind_some, Nat.le_add_right, Nat.le_refl, if_true, if_false, and_self, true_and, and_true, or_false, false_or, or_true, true_or, and_false, false_and, not_true_eq_false, not_false_eq_true, Nat.reduceAdd, Nat.reduceLeDiff, Nat.reduceLT, Option.toList_some, Option.toList_none, List.cons_append, List.nil_append, callK_ret, callR_ret, callK_thr, decide_true, Bool.true_and, xNr, bI0, bIT, bIF, ne_eq, Classical.not_not, not_false_eq_true, false_or, List.length_nil, icM, ic_lt, ic_eq, le_nl, ↓reduceIte, Nat.lt_irrefl, ri_ws, ri_wn, ri_as, ri_an, upd_s, upd_n, rp_wi, rp_wa, rl_wi, rl_wa, rl_wp, rl_wpa, rl_wl, rp_wl, ri_wl, rp_wd, ri_wd, in_rng, Int32.lt_irrefl, Nat.not_lt_zero, pk_nc, Nat.reduceEqDiff, Nat.succ_ne_self, Nat.one_ne_zero, Nat.add_left_cancel_iff, ri_wpa, ri_wp, QModel_kind_0, m_ofJobNo h0 h12 hn0, hnar])
  | some a =>
    have ha := (fO_lt h).1
    have hj := hC.2.2.2.2 a ha
    have e : ri m (rp m 2 a) 3 = ri m 293 (42 + 8 * a + 3) - ic 97 := hj 3 (by decide)
    have hcl := fun d => c_kindOk (n0 := n0) (S0 := S0) (G := G) (N := N) (z := z) (d := d + 11) hJ hn h12 (hf.trans h)
    rw [e, an1] at hcl
    exact get_ok hI hcl (fun d => m_kind (m := wl m 303 0 _) (d := d + 10) h0 h12 (by rw [← hN]; exact h))
theorem P_barrowOf (hI : Inv n0 N0 z0 q G m N z) (hq : q ≤ 512) {job : Int32} : Pr n0 S0 N0 z0 q Int32.toInt64 94 [.int job] 187 [.int job] (1, e4) G m N z := by
  obtain ⟨⟨T, L, nx, cnt, hTL, hc⟩, _⟩ := id hI
  have hC := hc.2.2.2.2.1.2
  have hW := hc.2.2.2.2.1.1
  have hJ := hc.1.1
  obtain ⟨n, h12, h0, hN⟩ := hW.n
  have hn : ri m 1 1 = ic n := hC.1.1.trans h0
  have hf := hC.find (job := job)
  rw [hN] at hf
  cases h : fO (ri m 293) job with
  | none => exact get_no (why := 1) hI (by decide) (by decide) (fun d => c_barrowOfNo (d := d + 11) hJ hn h12 (hf.trans h)) (fun d N z => m_barrowOfNo (d := d + 10) h0 h12 (by rw [← hN]; exact h))
  | some a =>
    have ha := (fO_lt h).1
    have hj := hC.2.2.2.2 a ha
    have e : ri m (rp m 2 a) 7 = ri m 293 (42 + 8 * a + 7) - ic 1 := hj 7 (by decide)
    have hcl := fun d => c_barrowOfOk (n0 := n0) (S0 := S0) (G := G) (N := N) (z := z) (d := d + 11) hJ hn h12 (hf.trans h)
    have hrf := fun (m' : mm) (hm : ri m' 293 = ri m 293) (d N z : Nat) => m_barrowOf (n0 := n0) (S0 := S0) (G := G) (N := N) (z := z) (m := m') (a := a) (job := job) (d := d + 10) (by rw [hm]; exact h0) h12 (by rw [hm, ← hN]; exact h)
    have hiff : (ri m (rp m 2 a) 7 = -ic 1) = (ri m 293 (42 + 8 * a + 7) = ic 0) := by rw [e, sub1, m1z]
    by_cases g : ri m 293 (42 + 8 * a + 7) = ic 0
    · refine get_no (why := 1) (b := ic 0) hI (by decide) (by decide) (fun d => ?_) (fun d N z => ?_)
      · rw [hcl d, if_pos (hiff ▸ g)]
        rfl
      · rw [hrf m rfl d, if_pos g, wi_wi]
    · refine get_ok hI (v := ri m 293 (42 + 8 * a + 7) - ic 1) (fun d => ?_) (fun d => ?_)
      · rw [hcl d, if_neg (hiff ▸ g), e]
      · exact (hrf (wl m 303 0 _) rfl d N z).trans (if_neg g)
theorem P_jobByDue (hI : Inv n0 N0 z0 q G m N z) (hq : q ≤ 512) {rk : Int32} : Pr n0 S0 N0 z0 q Int32.toInt64 95 [.int rk] 188 [.int rk] (1, e4) G m N z := by
  obtain ⟨⟨T, L, nx, cnt, hTL, hc⟩, _⟩ := id hI
  have hC := hc.2.2.2.2.1.2
  have hW := hc.2.2.2.2.1.1
  have hJ := hc.1.1
  obtain ⟨n, h12, h0, hN⟩ := hW.n
  have hn : ri m 1 1 = ic n := hC.1.1.trans h0
  have hfe : jdF m n rk = fndA (fun k => ic (cntF (fun o => duF (ri m 293) k o) n) = rk) 0 n := fndA_congr _ _ (fun i _ hi => by
    have e : cntF (fun j => dB m (rp m 2 j) (rp m 2 i)) n = cntF (fun o => duF (ri m 293) i o) n := cntF_congr (fun o ho => by
      have a1 := hC.2.2.2.2 i (by omega)
      have a2 := hC.2.2.2.2 o (by omega)
      have b1 : ri m (rp m 2 i) 6 = ri m 293 (42 + 8 * i + 6) := (a1 6 (by decide)).trans (jt_n _ (by decide) (by decide))
      have b2 : ri m (rp m 2 o) 6 = ri m 293 (42 + 8 * o + 6) := (a2 6 (by decide)).trans (jt_n _ (by decide) (by decide))
      have b3 : ri m (rp m 2 i) 0 = ri m 293 (42 + 8 * i) := (a1 0 (by decide)).trans (jt_n _ (by decide) (by decide))
      have b4 : ri m (rp m 2 o) 0 = ri m 293 (42 + 8 * o) := (a2 0 (by decide)).trans (jt_n _ (by decide) (by decide))
      show (ri m (rp m 2 o) 6 < ri m (rp m 2 i) 6 ∨ (ri m (rp m 2 o) 6 = ri m (rp m 2 i) 6 ∧ ri m (rp m 2 o) 0 < ri m (rp m 2 i) 0)) ↔ _
      rw [b1, b2, b3, b4, hW.num (by omega) (by omega)])
    rw [e])
  have hcl := fun d => c_jobByDue (n0 := n0) (S0 := S0) (G := G) (N := N) (z := z) (d := d + 11) (r := rk) hJ hn h12
  have hrf := fun (m' : mm) (hm : ri m' 293 = ri m 293) (d N z : Nat) => m_jobByDue (n0 := n0) (S0 := S0) (G := G) (N := N) (z := z) (m := m') (r := rk) (d := d + 12) (by rw [hm]; exact h0) h12
  rw [hfe] at hcl
  cases h : fndA (fun k => ic (cntF (fun o => duF (ri m 293) k o) n) = rk) 0 n with
  | none =>
    rw [h] at hcl
    refine get_no (why := 1) (b := ic 0) hI (by decide) (by decide) hcl (fun d N z => ?_)
    rw [hrf m rfl d, h]
    dsimp only
    rw [wi_wi]
  | some a =>
    rw [h] at hcl
    have ha := (fndA_lt _ _ _ h).2.1
    have b3 : ri m (rp m 2 a) 0 = ri m 293 (42 + 8 * a) := (hC.2.2.2.2 a (by omega) 0 (by decide)).trans (jt_n _ (by decide) (by decide))
    refine get_ok hI (v := ri m 293 (42 + 8 * a)) (fun d => ?_) (fun d => ?_)
    · rw [hcl d]
      dsimp only
      rw [b3]
    · refine (hrf (wl m 303 0 _) rfl d N z).trans ?_
      have h' : fndA (fun k => ic (cntF (fun o => duF (ri (wl m 303 0 (Int32.toInt64 (ri m 293 (42 + 8 * a)))) 293) k o) n) = rk) 0 n = some a := h
      rw [h']
      rfl
theorem P_stock (hI : Inv n0 N0 z0 q G m N z) (hq : q ≤ 512) {k : Int32} : Pr n0 S0 N0 z0 q Int32.toInt64 96 [.int k] 189 [.int k] (1, e1) G m N z := by
  obtain ⟨⟨T, L, nx, cnt, hTL, hc⟩, _⟩ := id hI
  have hC := hc.2.2.2.2.1.2
  have hW := hc.2.2.2.2.1.1
  have hJ := hc.1.1
  obtain ⟨n, h12, h0, hN⟩ := hW.n
  have hn : ri m 1 1 = ic n := hC.1.1.trans h0
  by_cases hk : (¬ k < ic 97 ∧ k < ic 101)
  · obtain ⟨w, h1, h2, rfl⟩ := rng2 (by decide) (by decide) hk.1 hk.2
    obtain ⟨j, rfl⟩ : ∃ j, w = 97 + j := ⟨w - 97, by omega⟩
    have hj : j < 4 := by omega
    have hcl := fun d => c_stockGet (n0 := n0) (S0 := S0) (G := G) (N := N) (z := z) (m := m) (d := d + 11) (kI_ic hj) hj
    have e : ri m 4 j = ri m 293 (8 + j) := hC.2.1 j hj
    rw [e] at hcl
    exact get_ok hI hcl (fun d => m_stock (m := wl m 303 0 _) (d := d + 11) hj)
  · exact get_no (why := 1) hI (by decide) (by decide) (fun d => c_stockBar (d := d + 11) (by rw [kI_in]; exact hk)) (fun d N z => m_stockNo (d := d + 11) hk)
theorem P_parts (hI : Inv n0 N0 z0 q G m N z) (hq : q ≤ 512) {w k : Int32} : Pr n0 S0 N0 z0 q Int32.toInt64 98 [.int w, .int k] 190 [.int w, .int k] (2, e31) G m N z := by
  obtain ⟨⟨T, L, nx, cnt, hTL, hc⟩, _⟩ := id hI
  have hC := hc.2.2.2.2.1.2
  have hW := hc.2.2.2.2.1.1
  have hJ := hc.1.1
  obtain ⟨n, h12, h0, hN⟩ := hW.n
  have hn : ri m 1 1 = ic n := hC.1.1.trans h0
  by_cases hw : (¬ w < ic 0 ∧ w < ic 3)
  · have hw0 := hw
    obtain ⟨w, hw3, rfl⟩ := rng_of (by decide) hw
    by_cases hk : (¬ k < ic 97 ∧ k < ic 101)
    · obtain ⟨x, h1, h2, rfl⟩ := rng2 (by decide) (by decide) hk.1 hk.2
      obtain ⟨j, rfl⟩ : ∃ j, x = 97 + j := ⟨x - 97, by omega⟩
      have hj : j < 4 := by omega
      have hcl := fun d => c_partsGet (n0 := n0) (S0 := S0) (G := G) (N := N) (z := z) (m := m) (d := d + 11) hw3 (kI_ic hj) hj
      have e : ri m (3 + (15 + 2 * w) + 1) j = ri m 293 (18 + 8 * w + (4 + j)) := (hC.2.2.2.1 w hw3).2 j hj
      rw [e] at hcl
      exact get_ok hI hcl (fun d => m_parts (m := wl m 303 0 _) (d := d + 11) hw3 hj)
    · exact get_no (why := 2) hI (by decide) (by decide) (fun d => c_partsBad (d := d + 11) hw3 (by rw [kI_in]; exact hk)) (fun d N z => m_partsBad (d := d + 11) hw0 hk)
  · exact get_no (why := 1) hI (by decide) (by decide) (fun d => c_partsBar (d := d + 11) hw) (fun d N z => m_partsBar (d := d + 11) hw)
theorem P_tools (hI : Inv n0 N0 z0 q G m N z) (hq : q ≤ 512) {w : Int32} : Pr n0 S0 N0 z0 q Int32.toInt64 100 [.int w] 191 [.int w] (1, e3) G m N z := by
  obtain ⟨⟨T, L, nx, cnt, hTL, hc⟩, _⟩ := id hI
  have hC := hc.2.2.2.2.1.2
  have hW := hc.2.2.2.2.1.1
  have hJ := hc.1.1
  obtain ⟨n, h12, h0, hN⟩ := hW.n
  have hn : ri m 1 1 = ic n := hC.1.1.trans h0
  by_cases hw : (¬ w < ic 0 ∧ w < ic 3)
  · have hw0 := hw
    obtain ⟨w, hw3, rfl⟩ := rng_of (by decide) hw
    have hcl := fun d => c_toolsGet (n0 := n0) (S0 := S0) (G := G) (N := N) (z := z) (m := m) (d := d + 11) hw3
    have e : cntF (fun i => ri m 5 i = ic w) 6 = cntF (fun i => ri m 293 (12 + i) = ic w + ic 1) 6 := hC.tls
    rw [e] at hcl
    exact get_ok hI hcl (fun d => m_tools (m := wl m 303 0 _) (d := d + 11) hw0)
  · exact get_no (why := 1) hI (by decide) (by decide) (fun d => c_toolsBar (d := d + 11) hw) (fun d N z => m_toolsBar (d := d + 11) hw)
theorem P_holder (hI : Inv n0 N0 z0 q G m N z) (hq : q ≤ 512) {t : Int32} : Pr n0 S0 N0 z0 q Int32.toInt64 101 [.int t] 192 [.int t] (2, e34) G m N z := by
  obtain ⟨⟨T, L, nx, cnt, hTL, hc⟩, _⟩ := id hI
  have hC := hc.2.2.2.2.1.2
  have hW := hc.2.2.2.2.1.1
  have hJ := hc.1.1
  obtain ⟨n, h12, h0, hN⟩ := hW.n
  have hn : ri m 1 1 = ic n := hC.1.1.trans h0
  by_cases ht : (¬ t < ic 0 ∧ t < ic 6)
  · obtain ⟨t, ht6, rfl⟩ := rng_of (by decide) ht
    have hcl := fun d => c_holderGet (n0 := n0) (S0 := S0) (G := G) (N := N) (z := z) (m := m) (d := d + 11) ht6
    have hrf := fun (m' : mm) (hm : ri m' 293 = ri m 293) (d N z : Nat) => m_holder (n0 := n0) (S0 := S0) (G := G) (N := N) (z := z) (m := m') (d := d + 11) ht6
    have e : ri m 5 t = ri m 293 (12 + t) - ic 1 := hC.2.2.1 t ht6
    have hiff : (ri m 5 t = -ic 1) = (ri m 293 (12 + t) = ic 0) := by rw [e, sub1, m1z]
    by_cases g : ri m 293 (12 + t) = ic 0
    · refine get_no (why := 2) (b := ic 0) hI (by decide) (by decide) (fun d => ?_) (fun d N z => ?_)
      · rw [hcl d, if_pos (hiff ▸ g)]
        rfl
      · rw [hrf m rfl d, if_pos g]
    · refine get_ok hI (v := ri m 293 (12 + t) - ic 1) (fun d => ?_) (fun d => ?_)
      · rw [hcl d, if_neg (hiff ▸ g), e]
      · exact (hrf (wl m 303 0 _) rfl d N z).trans (if_neg g)
  · exact get_no (why := 1) hI (by decide) (by decide) (fun d => c_holderBar (d := d + 11) ht) (fun d N z => m_holderBar (d := d + 11) ht)
theorem P_barrowX (hI : Inv n0 N0 z0 q G m N z) (hq : q ≤ 512) {w : Int32} : Pr n0 S0 N0 z0 q Int32.toInt64 102 [.int w] 193 [.int w] (1, e3) G m N z := by
  obtain ⟨⟨T, L, nx, cnt, hTL, hc⟩, _⟩ := id hI
  have hC := hc.2.2.2.2.1.2
  have hW := hc.2.2.2.2.1.1
  have hJ := hc.1.1
  obtain ⟨n, h12, h0, hN⟩ := hW.n
  have hn : ri m 1 1 = ic n := hC.1.1.trans h0
  by_cases hw : (¬ w < ic 0 ∧ w < ic 3)
  · obtain ⟨w, hw3, rfl⟩ := rng_of (by decide) hw
    have hcl := fun d => c_barrowXGet (n0 := n0) (S0 := S0) (G := G) (N := N) (z := z) (m := m) (d := d + 11) hw3
    have e : ri m (3 + (15 + 2 * w)) 0 = ri m 293 (18 + 8 * w + 0) := (hC.2.2.2.1 w hw3).1 0 (by decide)
    rw [e] at hcl
    exact get_ok hI hcl (fun d => m_barrowX (m := wl m 303 0 _) (d := d + 10) hw3)
  · exact get_no (why := 1) hI (by decide) (by decide) (fun d => c_barrowXBar (d := d + 11) hw) (fun d N z => m_barrowXBar (d := d + 10) hw)
theorem P_barrowY (hI : Inv n0 N0 z0 q G m N z) (hq : q ≤ 512) {w : Int32} : Pr n0 S0 N0 z0 q Int32.toInt64 103 [.int w] 195 [.int w] (1, e3) G m N z := by
  obtain ⟨⟨T, L, nx, cnt, hTL, hc⟩, _⟩ := id hI
  have hC := hc.2.2.2.2.1.2
  have hW := hc.2.2.2.2.1.1
  have hJ := hc.1.1
  obtain ⟨n, h12, h0, hN⟩ := hW.n
  have hn : ri m 1 1 = ic n := hC.1.1.trans h0
  by_cases hw : (¬ w < ic 0 ∧ w < ic 3)
  · obtain ⟨w, hw3, rfl⟩ := rng_of (by decide) hw
    have hcl := fun d => c_barrowYGet (n0 := n0) (S0 := S0) (G := G) (N := N) (z := z) (m := m) (d := d + 11) hw3
    have e : ri m (3 + (15 + 2 * w)) 1 = ri m 293 (18 + 8 * w + 1) := (hC.2.2.2.1 w hw3).1 1 (by decide)
    rw [e] at hcl
    exact get_ok hI hcl (fun d => m_barrowY (m := wl m 303 0 _) (d := d + 10) hw3)
  · exact get_no (why := 1) hI (by decide) (by decide) (fun d => c_barrowYBar (d := d + 11) hw) (fun d N z => m_barrowYBar (d := d + 10) hw)
theorem P_clock (hI : Inv n0 N0 z0 q G m N z) (hq : q ≤ 512) {w : Int32} : Pr n0 S0 N0 z0 q Int32.toInt64 104 [.int w] 196 [.int w] (1, e3) G m N z := by
  obtain ⟨⟨T, L, nx, cnt, hTL, hc⟩, _⟩ := id hI
  have hC := hc.2.2.2.2.1.2
  have hW := hc.2.2.2.2.1.1
  have hJ := hc.1.1
  obtain ⟨n, h12, h0, hN⟩ := hW.n
  have hn : ri m 1 1 = ic n := hC.1.1.trans h0
  by_cases hw : (¬ w < ic 0 ∧ w < ic 3)
  · obtain ⟨w, hw3, rfl⟩ := rng_of (by decide) hw
    have hcl := fun d => c_clockGet (n0 := n0) (S0 := S0) (G := G) (N := N) (z := z) (m := m) (d := d + 11) hw3
    have e : ri m (3 + (15 + 2 * w)) 2 = ri m 293 (18 + 8 * w + 2) := (hC.2.2.2.1 w hw3).1 2 (by decide)
    rw [e] at hcl
    exact get_ok hI hcl (fun d => m_clock (m := wl m 303 0 _) (d := d + 10) hw3)
  · exact get_no (why := 1) hI (by decide) (by decide) (fun d => c_clockBar (d := d + 11) hw) (fun d N z => m_clockBar (d := d + 10) hw)
theorem P_earnings (hI : Inv n0 N0 z0 q G m N z) (hq : q ≤ 512) {w : Int32} : Pr n0 S0 N0 z0 q Int32.toInt64 113 [.int w] 212 [.int w] (1, e3) G m N z := by
  obtain ⟨⟨T, L, nx, cnt, hTL, hc⟩, _⟩ := id hI
  have hC := hc.2.2.2.2.1.2
  have hW := hc.2.2.2.2.1.1
  have hJ := hc.1.1
  obtain ⟨n, h12, h0, hN⟩ := hW.n
  have hn : ri m 1 1 = ic n := hC.1.1.trans h0
  by_cases hw : (¬ w < ic 0 ∧ w < ic 3)
  · obtain ⟨w, hw3, rfl⟩ := rng_of (by decide) hw
    have hcl := fun d => c_earningsGet (n0 := n0) (S0 := S0) (G := G) (N := N) (z := z) (m := m) (d := d + 11) hw3
    have e : ri m (3 + (15 + 2 * w)) 3 = ri m 293 (18 + 8 * w + 3) := (hC.2.2.2.1 w hw3).1 3 (by decide)
    rw [e] at hcl
    exact get_ok hI hcl (fun d => m_earnings (m := wl m 303 0 _) (d := d + 10) hw3)
  · exact get_no (why := 1) hI (by decide) (by decide) (fun d => c_earningsBar (d := d + 11) hw) (fun d N z => m_earningsBar (d := d + 10) hw)
theorem P_isHome (hI : Inv n0 N0 z0 q G m N z) (hq : q ≤ 512) {w : Int32} : Pr n0 S0 N0 z0 q bL 105 [.int w] 197 [.int w] (1, e3) G m N z := by
  obtain ⟨⟨T, L, nx, cnt, hTL, hc⟩, _⟩ := id hI
  have hC := hc.2.2.2.2.1.2
  have hW := hc.2.2.2.2.1.1
  have hJ := hc.1.1
  obtain ⟨n, h12, h0, hN⟩ := hW.n
  have hn : ri m 1 1 = ic n := hC.1.1.trans h0
  by_cases hw : (¬ w < ic 0 ∧ w < ic 3)
  · obtain ⟨w, hw3, rfl⟩ := rng_of (by decide) hw
    have hcl := fun d => c_isHomeGet (n0 := n0) (S0 := S0) (G := G) (N := N) (z := z) (m := m) (d := d + 11) hw3
    have f := (hC.2.2.2.1 w hw3).1
    have e0 : ri m (3 + (15 + 2 * w)) 0 = ri m 293 (18 + 8 * w) := f 0 (by decide)
    have e1 : ri m (3 + (15 + 2 * w)) 1 = ri m 293 (18 + 8 * w + 1) := f 1 (by decide)
    rw [e0, e1] at hcl
    exact get_ok hI hcl (fun d => m_isHome (m := wl m 303 0 _) (d := d + 10) hw3)
  · exact get_no (why := 1) hI (by decide) (by decide) (fun d => c_isHomeBar (d := d + 11) hw) (fun d N z => m_isHomeBar (d := d + 10) hw)
theorem P_assigned (hI : Inv n0 N0 z0 q G m N z) (hq : q ≤ 512) {w : Int32} : Pr n0 S0 N0 z0 q Int32.toInt64 106 [.int w] 198 [.int w] (1, e3) G m N z := by
  obtain ⟨⟨T, L, nx, cnt, hTL, hc⟩, _⟩ := id hI
  have hC := hc.2.2.2.2.1.2
  have hW := hc.2.2.2.2.1.1
  have hJ := hc.1.1
  obtain ⟨n, h12, h0, hN⟩ := hW.n
  have hn : ri m 1 1 = ic n := hC.1.1.trans h0
  by_cases hw : (¬ w < ic 0 ∧ w < ic 3)
  · have hw0 := hw
    obtain ⟨w, hw3, rfl⟩ := rng_of (by decide) hw
    have hcl := fun d => c_assignedGet (n0 := n0) (S0 := S0) (G := G) (N := N) (z := z) (m := m) (d := d + 11) hJ hn h12 hw3
    have e := hC.asg (w := ic w)
    rw [hN] at e
    have e2 : cntF (fun i => ri m (rp m 2 i) 7 = ic w) n = _ := e
    rw [e2] at hcl
    exact get_ok hI hcl (fun d => m_assigned (m := wl m 303 0 _) (d := d + 10) h0 h12 hw0)
  · exact get_no (why := 1) hI (by decide) (by decide) (fun d => c_assignedBar (d := d + 11) hw) (fun d N z => m_assignedBar (d := d + 10) hw)
theorem P_canRepair (hI : Inv n0 N0 z0 q G m N z) (hq : q ≤ 512) {w job : Int32} : Pr n0 S0 N0 z0 q bL 107 [.int w, .int job] 199 [.int w, .int job] (2, e34) G m N z := by
  obtain ⟨⟨T, L, nx, cnt, hTL, hc⟩, _⟩ := id hI
  have hC := hc.2.2.2.2.1.2
  have hW := hc.2.2.2.2.1.1
  have hJ := hc.1.1
  obtain ⟨n, h12, h0, hN⟩ := hW.n
  have hn : ri m 1 1 = ic n := hC.1.1.trans h0
  have hf := hC.find (job := job)
  rw [hN] at hf
  by_cases hw : (¬ w < ic 0 ∧ w < ic 3)
  · have hw0 := hw
    obtain ⟨w, hw3, rfl⟩ := rng_of (by decide) hw
    cases h : fO (ri m 293) job with
    | none => exact get_no (why := 2) hI (by decide) (by decide) (fun d => c_canNo (d := d + 11) hJ hn h12 hw3 (hf.trans h)) (fun d N z => m_canNo (d := d + 9) h0 h12 hw0 (by rw [← hN]; exact h))
    | some a =>
      have ha := (fO_lt h).1
      have hj := hC.2.2.2.2 a ha
      have hJO := hW.job ha
      obtain ⟨t, ht5, ht⟩ := hJO.2.2.2.2.1
      obtain ⟨k, hk4, hk⟩ := hJO.2.2.2.1
      dsimp only at ht hk
      have e4' : ri m (rp m 2 a) 4 = ic t := ((hj 4 (by decide)).trans (jt_n _ (by decide) (by decide))).trans ht
      have e3' : ri m (rp m 2 a) 3 = ic k := by
        refine (hj 3 (by decide)).trans ?_
        rw [jt_3, hk, ic_sub (by omega)]
        congr 1
        omega
      have hcl := fun d => c_canGet (n0 := n0) (S0 := S0) (G := G) (N := N) (z := z) (d := d + 11) hJ hn h12 hw3 (hf.trans h) e4' (by omega) e3' hk4
      have b1 : (ri m 5 t = ic w) = (ri m 293 (12 + t) = ic w + ic 1) := by
        rw [show ri m 5 t = ri m 293 (12 + t) - ic 1 from hC.2.2.1 t (by omega), sub1]
      have b2 : ri m (3 + (15 + 2 * w) + 1) k = ri m 293 (18 + 8 * w + (4 + k)) := (hC.2.2.2.1 w hw3).2 k hk4
      have b3 : bI (ri m 5 t = ic w ∧ ic 0 < ri m (3 + (15 + 2 * w) + 1) k) = bI (ri m 293 (12 + t) = ic w + ic 1 ∧ ic 0 < ri m 293 (18 + 8 * w + (4 + k))) := by
        rw [b2]
        unfold bI
        by_cases g : ri m 293 (12 + t) = ic w + ic 1 ∧ ic 0 < ri m 293 (18 + 8 * w + (4 + k))
        · rw [if_pos g, if_pos ⟨b1 ▸ g.1, g.2⟩]
        · rw [if_neg g, if_neg (fun y => g ⟨b1 ▸ y.1, y.2⟩)]
      rw [b3] at hcl
      exact get_ok hI hcl (fun d => m_can (m := wl m 303 0 _) (d := d + 9) h0 h12 hw3 (by rw [← hN]; exact h) ht (by omega) hk hk4)
  · exact get_no (why := 1) hI (by decide) (by decide) (fun d => c_canBar (d := d + 11) hw) (fun d N z => m_canBar (d := d + 9) hw)
theorem P_finish (hI : Inv n0 N0 z0 q G m N z) (hq : q ≤ 512) {w job : Int32} : Pr n0 S0 N0 z0 q Int32.toInt64 108 [.int w, .int job] 201 [.int w, .int job] (2, e34) G m N z := by
  obtain ⟨⟨T, L, nx, cnt, hTL, hc⟩, _⟩ := id hI
  have hC := hc.2.2.2.2.1.2
  have hW := hc.2.2.2.2.1.1
  have hJ := hc.1.1
  obtain ⟨n, h12, h0, hN⟩ := hW.n
  have hn : ri m 1 1 = ic n := hC.1.1.trans h0
  have hf := hC.find (job := job)
  rw [hN] at hf
  by_cases hw : (¬ w < ic 0 ∧ w < ic 3)
  · have hw0 := hw
    obtain ⟨w, hw3, rfl⟩ := rng_of (by decide) hw
    cases h : fO (ri m 293) job with
    | none => exact get_no (why := 2) hI (by decide) (by decide) (fun d => c_finishNo (d := d + 10) hJ hn h12 hw3 (hf.trans h)) (fun d N z => m_finNo (d := d + 9) h0 h12 hw0 (by rw [← hN]; exact h))
    | some a =>
      have ha := (fO_lt h).1
      have hcl := fun d => c_finishGet (n0 := n0) (S0 := S0) (G := G) (N := N) (z := z) (d := d + 10) hJ hn h12 hw3 (hf.trans h)
      have e : fxF m 1 w (rp m 2 a) = finF (ri m 293) w a := hC.fin hW hw3 ha
      rw [e] at hcl
      exact get_ok hI hcl (fun d => m_fin (m := wl m 303 0 _) (d := d + 9) h0 h12 hw3 (by rw [← hN]; exact h))
  · exact get_no (why := 1) hI (by decide) (by decide) (fun d => c_finishBar (d := d + 10) hw) (fun d N z => m_finBar (d := d + 9) hw)
theorem P_fastestBarrow (hI : Inv n0 N0 z0 q G m N z) (hq : q ≤ 512) {job : Int32} : Pr n0 S0 N0 z0 q Int32.toInt64 109 [.int job] 202 [.int job] (1, e4) G m N z := by
  obtain ⟨⟨T, L, nx, cnt, hTL, hc⟩, _⟩ := id hI
  have hC := hc.2.2.2.2.1.2
  have hW := hc.2.2.2.2.1.1
  have hJ := hc.1.1
  obtain ⟨n, h12, h0, hN⟩ := hW.n
  have hn : ri m 1 1 = ic n := hC.1.1.trans h0
  have hf := hC.find (job := job)
  rw [hN] at hf
  cases h : fO (ri m 293) job with
  | none => exact get_no (why := 1) hI (by decide) (by decide) (fun d => c_fastNo (d := d + 10) hJ hn h12 (hf.trans h)) (fun d N z => m_fastNo (d := d + 9) h0 h12 (by rw [← hN]; exact h))
  | some a =>
    have ha := (fO_lt h).1
    have hcl := fun d => c_fastGet (n0 := n0) (S0 := S0) (G := G) (N := N) (z := z) (d := d + 10) hJ hn h12 (hf.trans h)
    have e : fst3 (fun w => fxF m 1 w (rp m 2 a)) = fst3 (fun w => finF (ri m 293) w a) := fst3_c (fun w hw => hC.fin hW hw ha)
    rw [e] at hcl
    exact get_ok hI hcl (fun d => m_fast (m := wl m 303 0 _) (d := d + 9) h0 h12 (by rw [← hN]; exact h))
theorem P_barrowByEarnings (hI : Inv n0 N0 z0 q G m N z) (hq : q ≤ 512) {rk : Int32} : Pr n0 S0 N0 z0 q Int32.toInt64 115 [.int rk] 218 [.int rk] (1, e4) G m N z := by
  obtain ⟨⟨T, L, nx, cnt, hTL, hc⟩, _⟩ := id hI
  have hC := hc.2.2.2.2.1.2
  have hW := hc.2.2.2.2.1.1
  have hJ := hc.1.1
  obtain ⟨n, h12, h0, hN⟩ := hW.n
  have hn : ri m 1 1 = ic n := hC.1.1.trans h0
  have hfe : fndA (fun i => ic (cntF (fun j => eR m 1 i j) 3) = rk) 0 3 = fndA (fun k => ic (cntF (fun o => o ≠ k ∧ ahF (ri m 293) o k) 3) = rk) 0 3 := fndA_congr _ _ (fun i _ hi => by
    have e : cntF (fun j => eR m 1 i j) 3 = cntF (fun o => o ≠ i ∧ ahF (ri m 293) o i) 3 := cntF_congr (fun o ho => er_ah hC (by omega) ho)
    rw [e])
  have hcl := fun d => c_byEarnings (n0 := n0) (S0 := S0) (G := G) (N := N) (z := z) (m := m) (d := d + 11) (r := rk)
  have hrf := fun (m' : mm) (d N z : Nat) => m_byEarnings (n0 := n0) (S0 := S0) (G := G) (N := N) (z := z) (m := m') (r := rk) (d := d + 11)
  rw [hfe] at hcl
  cases h : fndA (fun k => ic (cntF (fun o => o ≠ k ∧ ahF (ri m 293) o k) 3) = rk) 0 3 with
  | none =>
    rw [h] at hcl
    refine get_no (why := 1) (b := ic 0) hI (by decide) (by decide) hcl (fun d N z => ?_)
    rw [hrf m d, h]
    dsimp only
    rw [wi_wi]
  | some a =>
    rw [h] at hcl
    refine get_ok hI (v := ic a) (fun d => hcl d) (fun d => ?_)
    refine (hrf (wl m 303 0 _) d N z).trans ?_
    have h' : fndA (fun k => ic (cntF (fun o => o ≠ k ∧ ahF (ri (wl m 303 0 (Int32.toInt64 (ic a))) 293) o k) 3) = rk) 0 3 = some a := h
    rw [h']
theorem P_errorPosition (hI : Inv n0 N0 z0 q G m N z) (hq : q ≤ 512) : Pr n0 S0 N0 z0 q Int32.toInt64 123 [] 241 [] (1, e4) G m N z := by
  obtain ⟨⟨T, L, nx, cnt, hTL, hc⟩, _⟩ := id hI
  have hC := hc.2.2.2.2.1.2
  have hW := hc.2.2.2.2.1.1
  have hJ := hc.1.1
  obtain ⟨n, h12, h0, hN⟩ := hW.n
  have hn : ri m 1 1 = ic n := hC.1.1.trans h0
  obtain ⟨he, ho⟩ := hc.2.2.1
  have hcl := fun d => c_errorPosition (n0 := n0) (S0 := S0) (G := G) (N := N) (z := z) (m := m) (d := d + 13)
  have hrf := fun (m' : mm) (d N z : Nat) => m_errorPosition (n0 := n0) (S0 := S0) (G := G) (N := N) (z := z) (m := m') (d := d + 11)
  by_cases g : ri m 0 7 = -ic 1
  · refine get_no (why := 1) (b := ic 0) hI (by decide) (by decide) (fun d => ?_) (fun d N z => ?_)
    · rw [hcl d, if_pos g]
      rfl
    · rw [hrf m d, if_pos (by rw [← he, g]; decide)]
  · have hx : isN (ri m 0 7) 999 := ho.elim (fun y => absurd y g) id
    obtain ⟨x, hx1, hx2⟩ := hx
    refine get_ok hI (v := ri m 0 7) (fun d => ?_) (fun d => ?_)
    · rw [hcl d, if_neg g]
    · refine (hrf (wl m 303 0 _) d N z).trans ?_
      have hl : ri (wl m 303 0 (Int32.toInt64 (ri m 0 7))) 292 8 = ri m 0 7 := he.symm
      rw [hl, if_neg (by rw [hx2, ic_lt (by omega) (by omega)]; omega)]
theorem P_failedCommand (hI : Inv n0 N0 z0 q G m N z) (hq : q ≤ 512) : Pr n0 S0 N0 z0 q Int32.toInt64 124 [] 243 [] (1, e4) G m N z := by
  obtain ⟨⟨T, L, nx, cnt, hTL, hc⟩, _⟩ := id hI
  have hC := hc.2.2.2.2.1.2
  have hW := hc.2.2.2.2.1.1
  have hJ := hc.1.1
  obtain ⟨n, h12, h0, hN⟩ := hW.n
  have hn : ri m 1 1 = ic n := hC.1.1.trans h0
  obtain ⟨he, ho⟩ := hc.2.2.2.1
  have hcl := fun d => c_failedCommand (n0 := n0) (S0 := S0) (G := G) (N := N) (z := z) (m := m) (d := d + 13)
  have hrf := fun (m' : mm) (d N z : Nat) => m_failedCommand (n0 := n0) (S0 := S0) (G := G) (N := N) (z := z) (m := m') (d := d + 11)
  by_cases g : ri m 0 8 = -ic 1
  · refine get_no (why := 1) (b := ic 0) hI (by decide) (by decide) (fun d => ?_) (fun d N z => ?_)
    · rw [hcl d, if_pos g]
      rfl
    · rw [hrf m d, if_pos (by rw [← he, g]; decide)]
  · have hx : isN (ri m 0 8) 999 := ho.elim (fun y => absurd y g) id
    obtain ⟨x, hx1, hx2⟩ := hx
    refine get_ok hI (v := ri m 0 8) (fun d => ?_) (fun d => ?_)
    · rw [hcl d, if_neg g]
    · refine (hrf (wl m 303 0 _) d N z).trans ?_
      have hl : ri (wl m 303 0 (Int32.toInt64 (ri m 0 8))) 292 9 = ri m 0 8 := he.symm
      rw [hl, if_neg (by rw [hx2, ic_lt (by omega) (by omega)]; omega)]
theorem Q_jobs (hI : Inv n0 N0 z0 q G m N z) : Pq n0 S0 N0 z0 q 63 [] 179 [] (.int (ri m 293 0)) G m N z := by
  obtain ⟨⟨T, L, nx, cnt, hTL, hc⟩, _⟩ := id hI
  have hC := hc.2.2.2.2.1.2
  have hW := hc.2.2.2.2.1.1
  have hJ := hc.1.1
  obtain ⟨n, h12, h0, hN⟩ := hW.n
  have hn : ri m 1 1 = ic n := hC.1.1.trans h0
  have hcl := fun d => c_jobs (n0 := n0) (S0 := S0) (G := G) (N := N) (z := z) (m := m) (d := d + 13)
  rw [show ri m 1 1 = ri m 293 0 from hC.1.1] at hcl
  exact get_q hI hcl (fun d => m_jobs (d := d + 12))
theorem Q_isOpen (hI : Inv n0 N0 z0 q G m N z) {job : Int32} : Pq n0 S0 N0 z0 q 64 [.int job] 181 [.int job] (.int (bI (fO (ri m 293) job ≠ none))) G m N z := by
  obtain ⟨⟨T, L, nx, cnt, hTL, hc⟩, _⟩ := id hI
  have hC := hc.2.2.2.2.1.2
  have hW := hc.2.2.2.2.1.1
  have hJ := hc.1.1
  obtain ⟨n, h12, h0, hN⟩ := hW.n
  have hn : ri m 1 1 = ic n := hC.1.1.trans h0
  have hf := hC.find (job := job)
  rw [hN] at hf
  have hcl := fun d => c_isOpen (n0 := n0) (S0 := S0) (G := G) (N := N) (z := z) (d := d + 12) (job := job) hJ hn h12
  have e : bI (fdJ m n job ≠ none) = bI (fO (ri m 293) job ≠ none) := by
    have : fdJ m n job = fO (ri m 293) job := hf
    rw [this]
  rw [e] at hcl
  refine get_q hI hcl (fun d => ?_)
  have := m_isOpen (n0 := n0) (S0 := S0) (G := G) (N := N) (z := z) (d := d + 11) (job := job) h0 h12
  rw [← hN] at this
  exact this
theorem Q_repaired (hI : Inv n0 N0 z0 q G m N z) : Pq n0 S0 N0 z0 q 67 [] 215 [] (.int (ri m 293 2)) G m N z := by
  obtain ⟨⟨T, L, nx, cnt, hTL, hc⟩, _⟩ := id hI
  have hC := hc.2.2.2.2.1.2
  have hW := hc.2.2.2.2.1.1
  have hJ := hc.1.1
  obtain ⟨n, h12, h0, hN⟩ := hW.n
  have hn : ri m 1 1 = ic n := hC.1.1.trans h0
  have hcl := fun d => c_repaired (n0 := n0) (S0 := S0) (G := G) (N := N) (z := z) (m := m) (d := d + 13)
  rw [show ri m 1 6 = ri m 293 2 from hC.1.2.2.1] at hcl
  exact get_q hI hcl (fun d => m_repaired (d := d + 12))
end P16
