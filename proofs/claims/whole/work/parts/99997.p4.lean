/-! the class's changes against the rows: barrows; expanded by px.py out of p4.src -/
theorem i64 {n : Nat} (h : n < 2147483648) : (ic n).toInt64 = Int64.ofNat n := by
  apply Int64.toInt_inj.mp
  rw [Int32.toInt_toInt64, ic_toInt h, Int64.toInt_ofNat_of_lt (by omega)]
theorem ab_ap0 : ∀ i, i < 21 → ∀ j, j < 21 → aB (ic i - ic j) = apF (ic i) (ic j) := by decide +kernel
theorem ap_b0 : ∀ i, i < 21 → ∀ j, j < 21 → ∃ k, k < 21 ∧ apF (ic i) (ic j) = ic k := by
  have h : ∀ i, i < 21 → ∀ j, j < 21 → (apF (ic i) (ic j)).toNatClampNeg < 21 ∧ apF (ic i) (ic j) = ic (apF (ic i) (ic j)).toNatClampNeg := by decide +kernel
  exact fun i hi j hj => ⟨_, (h i hi j hj).1, (h i hi j hj).2⟩
theorem ab_ap {x y : Int32} (hx : isN x 20) (hy : isN y 20) : aB (x - y) = apF x y := by
  obtain ⟨i, h1, rfl⟩ := hx
  obtain ⟨j, h2, rfl⟩ := hy
  exact ab_ap0 i (by omega) j (by omega)
theorem ap_b {x y : Int32} (hx : isN x 20) (hy : isN y 20) : isN (apF x y) 20 := by
  obtain ⟨i, h1, rfl⟩ := hx
  obtain ⟨j, h2, rfl⟩ := hy
  obtain ⟨k, h3, h4⟩ := ap_b0 i (by omega) j (by omega)
  exact ⟨k, by omega, h4⟩
theorem ap_0 {x : Int32} (hx : isN x 20) : aB (x - ic 0) = x := by
  obtain ⟨i, h1, rfl⟩ := hx
  rw [ic_sub (by omega)]
  unfold aB
  rw [if_pos (by rw [ic_le (by omega) (by omega)]; omega)]
  rfl
theorem isN.add {x y : Int32} {A B : Nat} (hx : isN x A) (hy : isN y B) : isN (x + y) (A + B) := by
  obtain ⟨i, h1, rfl⟩ := hx
  obtain ⟨j, h2, rfl⟩ := hy
  exact ⟨i + j, by omega, ic_add _ _⟩
theorem ic_sub_neg {a b : Nat} (h : a ≤ b) : ic a - ic b = -ic (b - a) := by
  have e : ic b = ic (b - a) + ic a := by rw [ic_add]; congr 1; omega
  rw [e, ← Int32.neg_sub, Int32.add_sub_cancel]
theorem lat_eq {F U : Nat} (hF : F < 2147483648) (hU : U < 2147483648) : mX (ic F - ic U) (ic 0) = if ic U < ic F then ic F - ic U else ic 0 := by
  unfold mX
  simp only [ic_lt hU hF]
  by_cases h : U < F
  · rw [if_pos h, ic_sub (by omega), if_neg (by rw [ic_lt (by omega) (by omega)]; omega)]
  · rw [if_neg h]
    by_cases e : F = U
    · subst e
      rw [ic_sub (Nat.le_refl _), Nat.sub_self, if_neg Int32.lt_irrefl]
    · have e2 : (ic F - ic U < ic 0) := by
        rw [ic_sub_neg (by omega)]
        have := ngl (a := U - F) (b := 0) (by omega) (by omega)
        rw [show (ic 0 : Int32) = -ic 0 from by decide, this]
        omega
      rw [if_pos e2]
theorem late_b {F U : Nat} (hF : F < 2147483648) (hU : U < 2147483648) : (if ic U < ic F then ic F - ic U else ic 0) = ic (F - U) := by
  simp only [ic_lt hU hF]
  by_cases h : U < F
  · rw [if_pos h, ic_sub (by omega)]
  · rw [if_neg h, show F - U = 0 by omega]
section P4
variable {n0 N z d T : Nat} {S0 : Nat → Value} {G : sH} {m : mm} {r : Nat → Int32}
theorem CL.home (hC : CL m 1 r) {w : Nat} (hw : w < 3) : (ri m ((1 + 2 + (15 + 2 * w))) 0 = ic 0 ∧ ri m ((1 + 2 + (15 + 2 * w))) 1 = ic 0) = atH r w := by
  have h := (hC.2.2.2.1 w hw).1
  rw [h 0 (by decide), h 1 (by decide)]
  rfl
theorem k_load (hC : CL m 1 r) (hW : RW T r) (hJ : JV m 1) {w k c : Int32} : ∃ m2 ret, (∀ d N z, Mt (n0, S0) (d + 2) 51 [.ref (n0 + 1), .int w, .int (kI k), .int c] (hp n0 G m, N, z) = oI n0 G m2 N z ret) ∧ oR m m2 (nLod r w k c) (wLod r w k c) eLod ret (vLod r w k c) := by
  obtain ⟨n, h12, h0, hN⟩ := hW.n
  have hle : (¬ ic 10 < c) = (c < ic 11) := le_lt (a := 10) (by decide) c
  by_cases hw : (¬ w < ic 0 ∧ w < ic 3)
  · by_cases hk : (¬ k < ic 97 ∧ k < ic 101) ∧ (¬ c < ic 1 ∧ c < ic 11)
    · obtain ⟨w, hw3, rfl⟩ := rng_of (by decide) hw
      obtain ⟨w2, h1, h2, rfl⟩ := rng2 (by decide) (by decide) hk.1.1 hk.1.2
      obtain ⟨j, rfl⟩ : ∃ j, w2 = 97 + j := ⟨w2 - 97, by omega⟩
      have hj : j < 4 := by omega
      have hs := hC.2.1 j hj
      have hp4 := (hC.2.2.2.1 w hw3).2
      have hsum : ic 0 + ri m ((1 + 2 + (15 + 2 * w)) + 1) 0 + ri m ((1 + 2 + (15 + 2 * w)) + 1) 1 + ri m ((1 + 2 + (15 + 2 * w)) + 1) 2 + ri m ((1 + 2 + (15 + 2 * w)) + 1) 3 = allP r w := by
        rw [hp4 0 (by decide), hp4 1 (by decide), hp4 2 (by decide), hp4 3 (by decide)]
        show (0 : Int32) + _ + _ + _ + _ = _
        rw [Int32.zero_add]
      by_cases hh : atH r w ∧ ¬ ic 10 < allP r w + c
      · by_cases hb : r (8 + j) < c
        · refine ⟨m, -ic 5, fun d N z => ?_, Or.inl ?_⟩
          · rw [kI_ic hj]
            exact c_loadNo isS_1 hw3 hj hk.2.1 (by rw [hle]; exact hk.2.2) (by rw [hC.home hw3]; exact hh.1) (by rw [hsum]; exact hh.2) (by rw [hs]; exact hb)
          · unfold wLod
            rw [if_pos hw, if_pos hk, wO_ic (by omega), kO_ic hj, if_pos hh, if_pos hb]
            exact ⟨Nat.succ_pos _, rfl, rfl⟩
        · have hC1 := CL_low hC (by omega) hJ (q := 1 + 3) (i := j) (x := 8 + j) (v := ri m (1 + 3) j - c) (v2 := r (8 + j) - c) (Or.inl ⟨rfl, hj, rfl, by rw [hs]⟩)
          have hN1 : nO (upd r (8 + j) (r (8 + j) - c)) = n := by unfold nO; rw [upd_n _ _ (by omega)]; exact hN
          have hC2 := CL_low hC1 (by omega) (JV_wi hJ) (q := (1 + 2 + (15 + 2 * w)) + 1) (i := j) (x := 18 + 8 * w + (4 + j)) (v := ri m ((1 + 2 + (15 + 2 * w)) + 1) j + c) (v2 := r (18 + 8 * w + (4 + j)) + c) (Or.inr (Or.inr ⟨w, hw3, Or.inr ⟨rfl, hj, rfl, by rw [hp4 j hj]⟩⟩))
          refine ⟨ldM m 1 w j c, ic 0 + ri (ldM m 1 w j c) ((1 + 2 + (15 + 2 * w)) + 1) 0 + ri (ldM m 1 w j c) ((1 + 2 + (15 + 2 * w)) + 1) 1 + ri (ldM m 1 w j c) ((1 + 2 + (15 + 2 * w)) + 1) 2 + ri (ldM m 1 w j c) ((1 + 2 + (15 + 2 * w)) + 1) 3, fun d N z => ?_, Or.inr ⟨?_, ?_, ?_, JV_wi (JV_wi hJ), (eqS_wi (by decide) (by decide)).trans (eqS_wi (by omega) (by omega))⟩⟩
          · rw [kI_ic hj]
            exact c_loadOk isS_1 hw3 hj hk.2.1 (by rw [hle]; exact hk.2.2) (by rw [hC.home hw3]; exact hh.1) (by rw [hsum]; exact hh.2) (by rw [hs]; exact hb)
          · unfold wLod
            rw [if_pos hw, if_pos hk, wO_ic (by omega), kO_ic hj, if_pos hh, if_neg hb]
          · unfold vLod nLod
            rw [wO_ic (by omega), kO_ic hj]
            have h4 := (hC2.2.2.2.1 w hw3).2
            show ic 0 + ri (wi (wi m (1 + 3) j (ri m (1 + 3) j - c)) ((1 + 2 + (15 + 2 * w)) + 1) j (ri m ((1 + 2 + (15 + 2 * w)) + 1) j + c)) ((1 + 2 + (15 + 2 * w)) + 1) 0 + ri (wi (wi m (1 + 3) j (ri m (1 + 3) j - c)) ((1 + 2 + (15 + 2 * w)) + 1) j (ri m ((1 + 2 + (15 + 2 * w)) + 1) j + c)) ((1 + 2 + (15 + 2 * w)) + 1) 1 + ri (wi (wi m (1 + 3) j (ri m (1 + 3) j - c)) ((1 + 2 + (15 + 2 * w)) + 1) j (ri m ((1 + 2 + (15 + 2 * w)) + 1) j + c)) ((1 + 2 + (15 + 2 * w)) + 1) 2 + ri (wi (wi m (1 + 3) j (ri m (1 + 3) j - c)) ((1 + 2 + (15 + 2 * w)) + 1) j (ri m ((1 + 2 + (15 + 2 * w)) + 1) j + c)) ((1 + 2 + (15 + 2 * w)) + 1) 3 = _
            rw [h4 0 (by decide), h4 1 (by decide), h4 2 (by decide), h4 3 (by decide)]
            show (0 : Int32) + _ + _ + _ + _ = _
            rw [Int32.zero_add]
          · unfold nLod
            rw [wO_ic (by omega), kO_ic hj]
            exact hC2
      · refine ⟨m, -ic 2, fun d N z => ?_, Or.inl ?_⟩
        · rw [kI_ic hj]
          refine c_loadFull isS_1 hw3 hj hk.2.1 (by rw [hle]; exact hk.2.2) ?_
          rw [hC.home hw3, hsum]
          exact Classical.or_iff_not_imp_left.mpr (fun g => Classical.byContradiction (fun g2 => hh ⟨Classical.not_not.mp g, g2⟩))
        · unfold wLod
          rw [if_pos hw, if_pos hk, wO_ic (by omega), if_neg hh]
          exact ⟨Nat.succ_pos _, rfl, rfl⟩
    · refine ⟨m, -ic 1, fun d N z => c_loadBad isS_1 hw (by rw [kI_in, hle]; exact hk), Or.inl ?_⟩
      unfold wLod
      rw [if_pos hw, if_neg hk]
      exact ⟨Nat.succ_pos _, rfl, rfl⟩
  · refine ⟨m, -ic 3, fun d N z => c_loadBar isS_1 hw, Or.inl ?_⟩
    unfold wLod
    rw [if_neg hw]
    exact ⟨Nat.succ_pos _, rfl, rfl⟩
theorem k_borrow (hC : CL m 1 r) (hW : RW T r) (hJ : JV m 1) {w t : Int32} : ∃ m2 ret, (∀ d N z, Mt (n0, S0) (d + 2) 52 [.ref (n0 + 1), .int w, .int t] (hp n0 G m, N, z) = oI n0 G m2 N z ret) ∧ oR m m2 (nHnd r t (w + ic 1)) (wHnd r w t (ic 0)) eHnd ret (vHnd r w t (w + ic 1)) := by
  obtain ⟨n, h12, h0, hN⟩ := hW.n
  by_cases hw : (¬ w < ic 0 ∧ w < ic 3) ∧ (¬ t < ic 0 ∧ t < ic 6)
  · obtain ⟨w, hw3, rfl⟩ := rng_of (by decide) hw.1
    obtain ⟨t, ht6, rfl⟩ := rng_of (by decide) hw.2
    have hv := hC.2.2.1 t ht6
    have hg : (ri m (1 + 4) t = -ic 1) = (r (12 + t) = ic 0) := by rw [hv, sub1, m1z]
    have hH := hC.home hw3
    by_cases hb : atH r w ∧ r (12 + t) = ic 0
    · have hC2 := CL_low hC (by omega) hJ (q := 1 + 4) (i := t) (x := 12 + t) (v := ic w) (v2 := ic w + ic 1) (Or.inr (Or.inl ⟨rfl, ht6, rfl, (Int32.add_sub_cancel _ _).symm⟩))
      refine ⟨_, _, fun d N z => c_lendOk isS_1 hw3 ht6 (by rw [hH]; exact hb.1) (by rw [hg]; exact hb.2), Or.inr ⟨?_, ?_, ?_, JV_wi hJ, eqS_wi (by decide) (by decide)⟩⟩
      · unfold wHnd
        rw [if_pos hw, wO_ic (by omega), wO_ic (by omega), if_pos hb]
      · unfold vHnd nHnd
        rw [wO_ic (by omega)]
        exact congrArg ic hC2.tls
      · unfold nHnd
        rw [wO_ic (by omega)]
        exact hC2
    · refine ⟨m, -ic 2, fun d N z => c_lendBad isS_1 hw3 ht6 ?_, Or.inl ?_⟩
      · rw [hH, hg]
        exact Classical.or_iff_not_imp_left.mpr (fun g g2 => hb ⟨Classical.not_not.mp g, g2⟩)
      · unfold wHnd
        rw [if_pos hw, wO_ic (by omega), wO_ic (by omega), if_neg hb]
        exact ⟨Nat.succ_pos _, rfl, rfl⟩
  · refine ⟨m, -ic 3, fun d N z => c_lendBar isS_1 hw, Or.inl ?_⟩
    unfold wHnd
    rw [if_neg hw]
    exact ⟨Nat.succ_pos _, rfl, rfl⟩
theorem k_giveBack (hC : CL m 1 r) (hW : RW T r) (hJ : JV m 1) {w t : Int32} : ∃ m2 ret, (∀ d N z, Mt (n0, S0) (d + 2) 54 [.ref (n0 + 1), .int w, .int t] (hp n0 G m, N, z) = oI n0 G m2 N z ret) ∧ oR m m2 (nHnd r t (ic 0)) (wHnd r w t (w + ic 1)) eHnd ret (vHnd r w t (ic 0)) := by
  obtain ⟨n, h12, h0, hN⟩ := hW.n
  by_cases hw : (¬ w < ic 0 ∧ w < ic 3) ∧ (¬ t < ic 0 ∧ t < ic 6)
  · obtain ⟨w, hw3, rfl⟩ := rng_of (by decide) hw.1
    obtain ⟨t, ht6, rfl⟩ := rng_of (by decide) hw.2
    have hv := hC.2.2.1 t ht6
    have hg : (ri m (1 + 4) t = ic w) = (r (12 + t) = ic w + ic 1) := by rw [hv, sub1]
    have hH := hC.home hw3
    by_cases hb : atH r w ∧ r (12 + t) = ic w + ic 1
    · have hC2 := CL_low hC (by omega) hJ (q := 1 + 4) (i := t) (x := 12 + t) (v := -ic 1) (v2 := ic 0) (Or.inr (Or.inl ⟨rfl, ht6, rfl, by decide⟩))
      refine ⟨_, _, fun d N z => c_retOk isS_1 hw3 ht6 (by rw [hH]; exact hb.1) (by rw [hg]; exact hb.2), Or.inr ⟨?_, ?_, ?_, JV_wi hJ, eqS_wi (by decide) (by decide)⟩⟩
      · unfold wHnd
        rw [if_pos hw, wO_ic (by omega), wO_ic (by omega), if_pos hb]
      · unfold vHnd nHnd
        rw [wO_ic (by omega)]
        exact congrArg ic hC2.tls
      · unfold nHnd
        rw [wO_ic (by omega)]
        exact hC2
    · refine ⟨m, -ic 2, fun d N z => c_retBad isS_1 hw3 ht6 ?_, Or.inl ?_⟩
      · rw [hH, hg]
        exact Classical.or_iff_not_imp_left.mpr (fun g g2 => hb ⟨Classical.not_not.mp g, g2⟩)
      · unfold wHnd
        rw [if_pos hw, wO_ic (by omega), wO_ic (by omega), if_neg hb]
        exact ⟨Nat.succ_pos _, rfl, rfl⟩
  · refine ⟨m, -ic 3, fun d N z => c_retBar isS_1 hw, Or.inl ?_⟩
    unfold wHnd
    rw [if_neg hw]
    exact ⟨Nat.succ_pos _, rfl, rfl⟩
theorem k_goHome (hC : CL m 1 r) (hW : RW T r) (hJ : JV m 1) {w : Int32} : ∃ m2 ret, (∀ d N z, Mt (n0, S0) (d + 2) 58 [.ref (n0 + 1), .int w] (hp n0 G m, N, z) = oI n0 G m2 N z ret) ∧ oR m m2 (nHom r w) (wHom w) eHom ret (vHom r w) := by
  obtain ⟨n, h12, h0, hN⟩ := hW.n
  by_cases hw : (¬ w < ic 0 ∧ w < ic 3)
  · obtain ⟨w, hw3, rfl⟩ := rng_of (by decide) hw
    have hB := hW.bar hw3
    have hf := (hC.2.2.2.1 w hw3).1
    have e : ri m ((1 + 2 + (15 + 2 * w))) 2 + (aB (ri m ((1 + 2 + (15 + 2 * w))) 0 - ic 0) + aB (ri m ((1 + 2 + (15 + 2 * w))) 1 - ic 0)) = r (18 + 8 * w + 2) + r (18 + 8 * w) + r (18 + 8 * w + 1) := by
      rw [hf 0 (by decide), hf 1 (by decide), hf 2 (by decide), ap_0 hB.1, ap_0 hB.2.1, ← Int32.add_assoc]
      rfl
    have h1 : ∀ {r2 : Nat → Int32} {x : Nat} {v : Int32}, 0 < x → nO (upd r2 x v) = nO r2 := fun h => by unfold nO; rw [upd_n _ _ (by omega)]
    have hC1 := CL_low hC (by omega) hJ (q := (1 + 2 + (15 + 2 * w))) (i := 2) (x := 18 + 8 * w + 2) (v := r (18 + 8 * w + 2) + r (18 + 8 * w) + r (18 + 8 * w + 1)) (v2 := r (18 + 8 * w + 2) + r (18 + 8 * w) + r (18 + 8 * w + 1)) (Or.inr (Or.inr ⟨w, hw3, Or.inl ⟨rfl, by decide, rfl, rfl⟩⟩))
    have hC2 := CL_low hC1 (by rw [h1 (by omega)]; omega) (JV_wi hJ) (q := (1 + 2 + (15 + 2 * w))) (i := 0) (x := 18 + 8 * w) (v := ic 0) (v2 := ic 0) (Or.inr (Or.inr ⟨w, hw3, Or.inl ⟨rfl, by decide, rfl, rfl⟩⟩))
    have hC3 := CL_low hC2 (by rw [h1 (by omega), h1 (by omega)]; omega) (JV_wi (JV_wi hJ)) (q := (1 + 2 + (15 + 2 * w))) (i := 1) (x := 18 + 8 * w + 1) (v := ic 0) (v2 := ic 0) (Or.inr (Or.inr ⟨w, hw3, Or.inl ⟨rfl, by decide, rfl, rfl⟩⟩))
    have ht := fun d N z => c_homeOk (n0 := n0) (S0 := S0) (G := G) (m := m) (d := d) (N := N) (z := z) isS_1 hw3
    rw [e] at ht
    refine ⟨_, _, ht, Or.inr ⟨?_, ?_, ?_, JV_wi (JV_wi (JV_wi hJ)), ((eqS_wi (by omega) (by omega)).trans (eqS_wi (by omega) (by omega))).trans (eqS_wi (by omega) (by omega))⟩⟩
    · unfold wHom
      rw [if_pos hw]
    · unfold vHom
      rw [wO_ic (by omega)]
    · unfold nHom drvF
      rw [wO_ic (by omega)]
      exact hC3
  · refine ⟨m, -ic 3, fun d N z => c_homeBar isS_1 hw, Or.inl ?_⟩
    unfold wHom
    rw [if_neg hw]
    exact ⟨Nat.succ_pos _, rfl, rfl⟩
theorem k_rest (hC : CL m 1 r) (hW : RW T r) (hJ : JV m 1) {w u : Int32} : ∃ m2 ret, (∀ d N z, Mt (n0, S0) (d + 2) 59 [.ref (n0 + 1), .int w, .int u] (hp n0 G m, N, z) = oI n0 G m2 N z ret) ∧ oR m m2 (nRst r w u) (wRst w u) eRst ret (vRst r w u) := by
  obtain ⟨n, h12, h0, hN⟩ := hW.n
  have hle : (¬ ic 99 < u) = (u < ic 100) := le_lt (a := 99) (by decide) u
  by_cases hw : (¬ w < ic 0 ∧ w < ic 3)
  · by_cases hu : (¬ u < ic 1 ∧ u < ic 100)
    · obtain ⟨w, hw3, rfl⟩ := rng_of (by decide) hw
      have hf := (hC.2.2.2.1 w hw3).1
      have hC1 := CL_low hC (by omega) hJ (q := (1 + 2 + (15 + 2 * w))) (i := 2) (x := 18 + 8 * w + 2) (v := ri m ((1 + 2 + (15 + 2 * w))) 2 + u) (v2 := r (18 + 8 * w + 2) + u) (Or.inr (Or.inr ⟨w, hw3, Or.inl ⟨rfl, by decide, rfl, by rw [hf 2 (by decide)]⟩⟩))
      refine ⟨_, _, fun d N z => c_restOk isS_1 hw3 hu.1 (by rw [hle]; exact hu.2), Or.inr ⟨?_, ?_, ?_, JV_wi hJ, eqS_wi (by omega) (by omega)⟩⟩
      · unfold wRst
        rw [if_pos hw, if_pos hu]
      · unfold vRst
        rw [wO_ic (by omega), hf 2 (by decide)]
      · unfold nRst
        rw [wO_ic (by omega)]
        exact hC1
    · refine ⟨m, -ic 1, fun d N z => c_restBad isS_1 hw (by rw [hle]; exact hu), Or.inl ?_⟩
      unfold wRst
      rw [if_pos hw, if_neg hu]
      exact ⟨Nat.succ_pos _, rfl, rfl⟩
  · refine ⟨m, -ic 3, fun d N z => c_restBar isS_1 hw, Or.inl ?_⟩
    unfold wRst
    rw [if_neg hw]
    exact ⟨Nat.succ_pos _, rfl, rfl⟩
end P4
