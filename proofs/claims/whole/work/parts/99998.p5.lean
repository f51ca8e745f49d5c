/-! the class's repair against the rows; expanded by px.py out of p5.src -/
section P5
variable {n0 N z d T : Nat} {S0 : Nat → Value} {G : sH} {m : mm} {r : Nat → Int32}
theorem CL.fin (hC : CL m 1 r) (hW : RW T r) {w a : Nat} (hw : w < 3) (ha : a < nO r) : fxF m 1 w (rp m (1 + 1) a) = finF r w a := by
  have hf := (hC.2.2.2.1 w hw).1
  have hj := hC.2.2.2.2 a ha
  have hB := hW.bar hw
  have hJ := hW.job ha
  unfold fxF finF farF
  rw [hf 0 (by decide), hf 1 (by decide), hf 2 (by decide), hj 1 (by decide), hj 2 (by decide), hj 5 (by decide), jt_n _ (by decide) (by decide), jt_n _ (by decide) (by decide), jt_n _ (by decide) (by decide)]
  rw [ab_ap (x := r (18 + 8 * w + 0)) hB.1 hJ.2.1, ab_ap hB.2.1 hJ.2.2.1]
  rfl
theorem RW.fin (hW : RW T r) {w a : Nat} (hw : w < 3) (ha : a < nO r) : isN (finF r w a) (99 * T + 44) := by
  have hB := hW.bar hw
  have hJ := hW.job ha
  obtain ⟨k, hk1, hk2, hk3⟩ := hJ.2.2.2.2.2.1
  exact (((hB.2.2.1).add ((ap_b hB.1 hJ.2.1).add (ap_b hB.2.1 hJ.2.2.1))).add (⟨k, hk2, hk3⟩ : isN (r (42 + 8 * a + 5)) 4)).mono (by omega)
theorem CL.lat (hC : CL m 1 r) (hW : RW T r) (hT : T ≤ 1000) {w a : Nat} (hw : w < 3) (ha : a < nO r) : fxL m 1 w (rp m (1 + 1) a) = latF r w a := by
  have hj := hC.2.2.2.2 a ha 6 (by decide)
  obtain ⟨F, hF1, hF2⟩ := hW.fin hw ha
  obtain ⟨U, hU1, hU2, hU3⟩ := (hW.job ha).2.2.2.2.2.2.1
  dsimp only at hU3
  unfold fxL latF
  rw [hC.fin hW hw ha, hj, jt_n _ (by decide) (by decide), hF2, hU3]
  exact lat_eq (by omega) (by omega)
theorem RW.lat (hW : RW T r) (hT : T ≤ 1000) {w a : Nat} (hw : w < 3) (ha : a < nO r) : isN (latF r w a) (99 * T + 44) := by
  obtain ⟨F, hF1, hF2⟩ := hW.fin hw ha
  obtain ⟨U, hU1, hU2, hU3⟩ := (hW.job ha).2.2.2.2.2.2.1
  dsimp only at hU3
  unfold latF
  rw [hF2, hU3, late_b (by omega) (by omega)]
  exact ⟨F - U, by omega, rfl⟩
theorem CL_acc (hC : CL m 1 r) (hJ : JV m 1) (hN : nO r ≤ 12) {W L : Int64} {w l c : Int32} (h1 : W = w.toInt64) (h2 : L = l.toInt64) : CL (wi (wl (wl m 1 7 W) 1 8 L) 1 6 c) 1 (upd (upd (upd r 4 w) 3 l) 2 c) := by
  obtain ⟨⟨a1, a2, a3, a4, a5⟩, a6, a7, a8, a9⟩ := hC
  have hri : ∀ q, q ≠ 1 → ri (wi (wl (wl m 1 7 W) 1 8 L) 1 6 c) q = ri m q := fun q hq => by rw [ri_wn _ _ _ hq]; rfl
  have hr : ∀ x, x ≠ 4 → x ≠ 3 → x ≠ 2 → upd (upd (upd r 4 w) 3 l) 2 c x = r x := fun x h1 h2 h3 => by rw [upd_n _ _ h3, upd_n _ _ h2, upd_n _ _ h1]
  have hnO : nO (upd (upd (upd r 4 w) 3 l) 2 c) = nO r := by unfold nO; rw [hr 0 (by decide) (by decide) (by decide)]
  refine ⟨⟨?_, ?_, ?_, ?_, ?_⟩, ?_, ?_, ?_, ?_⟩
  · rw [ri_ws, upd_n _ _ (by decide), hr _ (by decide) (by decide) (by decide)]
    exact a1
  · rw [ri_ws, upd_n _ _ (by decide), hr _ (by decide) (by decide) (by decide)]
    exact a2
  · rw [ri_ws, upd_s, upd_s]
  · rw [upd_n _ _ (by decide), upd_s, ← h2]
    rw [rl_wi, rl_wl, if_pos ⟨rfl, rfl⟩]
  · rw [upd_n _ _ (by decide), upd_n _ _ (by decide), upd_s, ← h1]
    rw [rl_wi, rl_wl, if_neg (by decide), rl_wl, if_pos ⟨rfl, rfl⟩]
  · intro j hj
    rw [hri _ (by omega), hr _ (by omega) (by omega) (by omega)]
    exact a6 j hj
  · intro j hj
    rw [hri _ (by omega), hr _ (by omega) (by omega) (by omega)]
    exact a7 j hj
  · intro v hv
    refine ⟨fun o ho => ?_, fun j hj => ?_⟩
    · rw [hri _ (by omega), hr _ (by omega) (by omega) (by omega)]
      exact (a8 v hv).1 o ho
    · rw [hri _ (by omega), hr _ (by omega) (by omega) (by omega)]
      exact (a8 v hv).2 j hj
  · intro i hi k hk
    rw [hnO] at hi
    have hb := hJ.1 i (by omega)
    show ri (wi (wl (wl m 1 7 W) 1 8 L) 1 6 c) (rp m (1 + 1) i) k = _
    rw [hri _ (by omega), hr _ (by omega) (by omega) (by omega)]
    exact a9 i hi k hk
theorem eqS_wl {i : Nat} {v : Int64} : eqS 1 24 m (wl m 1 i v) := fun q hq => ⟨rfl, rfl, by
  funext j
  rw [rl_wl, if_neg (fun z => by omega)], rfl⟩
theorem tI_add {x y A B : Nat} {u v : Int32} (hu : u = ic x) (hv : v = ic y) (h1 : x ≤ A) (h2 : y ≤ B) (h : A + B < 2147483648) : u.toInt64 + v.toInt64 = (u + v).toInt64 := by
  rw [hu, hv, ic_add, i64 (by omega), i64 (by omega), i64 (by omega), Int64.ofNat_add]
theorem nO_upd {r2 : Nat → Int32} {x : Nat} {v : Int32} (h : 0 < x) : nO (upd r2 x v) = nO r2 := by unfold nO; rw [upd_n _ _ (by omega)]
theorem k_repair (hC : CL m 1 r) (hW : RW T r) (hT : T ≤ 1000) (hJ : JV m 1) {w job : Int32} : ∃ m2 ret, (∀ d N z, Mt (n0, S0) (d + 4) 55 [.ref (n0 + 1), .int w, .int job] (hp n0 G m, N, z) = oI n0 G m2 N z ret) ∧ oR m m2 (nRep r w job) (wRep r w job) eRep ret (vRep r w job) := by
  obtain ⟨n, h12, h0, hN⟩ := hW.n
  have hn : ri m 1 1 = ic n := hC.1.1.trans h0
  have hf := hC.find (job := job)
  rw [hN] at hf
  by_cases hw : (¬ w < ic 0 ∧ w < ic 3)
  · cases h : fO r job with
    | none =>
      refine ⟨m, -ic 4, fun d N z => c_fixNo isS_1 hJ hn h12 hw (hf.trans h), Or.inl ?_⟩
      unfold wRep
      rw [if_pos hw, h]
      exact ⟨Nat.succ_pos _, rfl, rfl⟩
    | some a =>
      have hw0 := hw
      obtain ⟨w, hw3, rfl⟩ := rng_of (by decide) hw
      have ha : a < n := hN ▸ (fO_lt h).1
      have hJO := hW.job (i := a) (by omega)
      obtain ⟨t, ht5, ht⟩ := hJO.2.2.2.2.1
      obtain ⟨k, hk4, hk⟩ := hJO.2.2.2.1
      dsimp only at ht hk
      have hjt := hC.2.2.2.2 a (by omega)
      have ht' : ri m (rp m (1 + 1) a) 4 = ic t := by rw [hjt 4 (by decide), jt_n _ (by decide) (by decide)]; exact ht
      have hk' : ri m (rp m (1 + 1) a) 3 = ic k := by
        rw [hjt 3 (by decide), jt_3, hk, ic_sub (by omega)]
        congr 1
        omega
      have hg : (ri m (1 + 4) t = ic w) = (r (12 + t) = ic w + ic 1) := by rw [hC.2.2.1 t (by omega), sub1]
      have hpt := (hC.2.2.2.1 w hw3).2 k hk4
      by_cases g1 : r (12 + t) = ic w + ic 1
      · by_cases g2 : ic 0 < r (18 + 8 * w + (4 + k))
        · have hfx := hC.fin hW hw3 (a := a) (by omega)
          have hlx := hC.lat hW hT hw3 (a := a) (by omega)
          have hbr := (hC.2.2.2.1 w hw3).1
          have hx1 := hjt 1 (by decide)
          have hx2 := hjt 2 (by decide)
          have hx5 := hjt 5 (by decide)
          rw [jt_n _ (by decide) (by decide)] at hx1 hx2 hx5
          have hC1 := CL_low hC (by omega) hJ (q := (1 + 2 + (15 + 2 * w))) (i := 2) (x := 18 + 8 * w + 2) (v := fxF m 1 w (rp m (1 + 1) a)) (v2 := finF r w a) (Or.inr (Or.inr ⟨w, hw3, Or.inl ⟨rfl, by decide, rfl, hfx⟩⟩))
          have hC2 := CL_low hC1 (by rw [nO_upd (by omega)]; omega) (JV_wi hJ) (q := (1 + 2 + (15 + 2 * w))) (i := 0) (x := 18 + 8 * w) (v := ri m (rp m (1 + 1) a) 1) (v2 := r (42 + 8 * a + 1)) (Or.inr (Or.inr ⟨w, hw3, Or.inl ⟨rfl, by decide, rfl, hx1⟩⟩))
          have hC3 := CL_low hC2 (by rw [nO_upd (by omega), nO_upd (by omega)]; omega) (JV_wi (JV_wi hJ)) (q := (1 + 2 + (15 + 2 * w))) (i := 1) (x := 18 + 8 * w + 1) (v := ri m (rp m (1 + 1) a) 2) (v2 := r (42 + 8 * a + 2)) (Or.inr (Or.inr ⟨w, hw3, Or.inl ⟨rfl, by decide, rfl, hx2⟩⟩))
          have hC4 := CL_low hC3 (by rw [nO_upd (by omega), nO_upd (by omega), nO_upd (by omega)]; omega) (JV_wi (JV_wi (JV_wi hJ))) (q := (1 + 2 + (15 + 2 * w)) + 1) (i := k) (x := 18 + 8 * w + (4 + k)) (v := ri m ((1 + 2 + (15 + 2 * w)) + 1) k - ic 1) (v2 := r (18 + 8 * w + (4 + k)) - ic 1) (Or.inr (Or.inr ⟨w, hw3, Or.inr ⟨rfl, hk4, rfl, by rw [hpt]⟩⟩))
          have hC5 := CL_low hC4 (by rw [nO_upd (by omega), nO_upd (by omega), nO_upd (by omega), nO_upd (by omega)]; omega) (JV_wi (JV_wi (JV_wi (JV_wi hJ)))) (q := (1 + 2 + (15 + 2 * w))) (i := 3) (x := 18 + 8 * w + 3) (v := ri m ((1 + 2 + (15 + 2 * w))) 3 + (ic 10 * ri m (rp m (1 + 1) a) 5 - ic 2 * fxL m 1 w (rp m (1 + 1) a))) (v2 := r (18 + 8 * w + 3) + ic 10 * r (42 + 8 * a + 5) - ic 2 * latF r w a) (Or.inr (Or.inr ⟨w, hw3, Or.inl ⟨rfl, by decide, rfl, by
            rw [hbr 3 (by decide), hx5, hlx, Int32.sub_eq_add_neg, Int32.sub_eq_add_neg, Int32.add_assoc]⟩⟩))
          obtain ⟨n2, nx, late, work, ⟨b1, b2, b3, b4, b5, b6, b7, b8, b9⟩, _⟩ := id hW
          obtain ⟨L, hL1, hL2⟩ := hW.lat hT hw3 (a := a) (by omega)
          obtain ⟨u, hu1, hu2, hu3⟩ := hJO.2.2.2.2.2.1
          dsimp only at hu3
          have hlate : late ≤ 99000000 := Nat.le_trans b3 (Nat.le_trans (sqM hT) (by decide))
          have hC6 := CL_acc hC5 (JV_wi (JV_wi (JV_wi (JV_wi (JV_wi hJ))))) (by rw [nO_upd (by omega), nO_upd (by omega), nO_upd (by omega), nO_upd (by omega), nO_upd (by omega)]; omega) (W := rl m 1 7 + (ri m (rp m (1 + 1) a) 5).toInt64) (L := rl m 1 8 + (fxL m 1 w (rp m (1 + 1) a)).toInt64) (w := r 4 + r (42 + 8 * a + 5)) (l := r 3 + latF r w a) (c := ri m 1 6 + ic 1)
            (by rw [hC.1.2.2.2.2, hx5]; exact tI_add b9 hu3 b4 hu2 (by omega))
            (by rw [hC.1.2.2.2.1, hlx]; exact tI_add b8 hL2 hlate hL1 (by omega))
          have hrow : upd (upd (upd (upd (upd (upd (upd (upd r (18 + 8 * w + 2) (finF r w a)) (18 + 8 * w) (r (42 + 8 * a + 1))) (18 + 8 * w + 1) (r (42 + 8 * a + 2))) (18 + 8 * w + (4 + k)) (r (18 + 8 * w + (4 + k)) - ic 1)) (18 + 8 * w + 3) (r (18 + 8 * w + 3) + ic 10 * r (42 + 8 * a + 5) - ic 2 * latF r w a)) 4 (r 4 + r (42 + 8 * a + 5))) 3 (r 3 + latF r w a)) 2 (ri m 1 6 + ic 1) = repF r w a k := by
            rw [hC.1.2.2.1]
            rfl
          rw [hrow] at hC6
          have hJ6 : JV (fxM m 1 w (rp m (1 + 1) a) k) 1 := hJ
          have h06 : repF r w a k 0 = ic n := by
            unfold repF
            rw [upd_n _ _ (by omega), upd_n _ _ (by omega), upd_n _ _ (by omega), upd_n _ _ (by omega), upd_n _ _ (by omega), upd_n _ _ (by omega), upd_n _ _ (by omega), upd_n _ _ (by omega)]
            exact h0
          have hC7 := CL_close (m := fxM m 1 w (rp m (1 + 1) a) k) hC6 h06 h12 ha hJ6
          refine ⟨_, _, fun d N z => c_fixOk isS_1 hJ hn h12 hw3 (hf.trans h) ha ht' (by omega) (by rw [hg]; exact g1) hk' hk4 (by rw [hpt]; exact g2), Or.inr ⟨?_, ?_, ?_, JV_close hJ6 ha h12, ?_⟩⟩
          · unfold wRep
            rw [if_pos hw0, h]
            dsimp only
            rw [ht, hk, wO_ic (by omega), wO_ic (by omega), kO_ic hk4, if_pos g1, if_pos g2]
          · unfold vRep
            rw [hlx, aO_of h, wO_ic (by omega)]
          · unfold nRep
            rw [aO_of h, wO_ic (by omega), hk, kO_ic hk4, hN]
            exact hC7
          · refine eqS.trans ?_ (eqS_close _)
            unfold fxM
            exact ((((((((eqS_wi (by omega) (by omega)).trans (eqS_wi (by omega) (by omega))).trans (eqS_wi (by omega) (by omega))).trans (eqS_wi (by omega) (by omega))).trans (eqS_wi (by omega) (by omega))).trans eqS_wl).trans eqS_wl)).trans (eqS_wi (by decide) (by decide))
        · refine ⟨m, -ic 5, fun d N z => c_fixPart isS_1 hJ hn h12 hw3 (hf.trans h) ha ht' (by omega) (by rw [hg]; exact g1) hk' hk4 (by rw [hpt]; exact g2), Or.inl ?_⟩
          unfold wRep
          rw [if_pos hw0, h]
          dsimp only
          rw [ht, hk, wO_ic (by omega), wO_ic (by omega), kO_ic hk4, if_pos g1, if_neg g2]
          exact ⟨Nat.succ_pos _, rfl, rfl⟩
      · refine ⟨m, -ic 2, fun d N z => c_fixTool isS_1 hJ hn h12 hw3 (hf.trans h) ha ht' (by omega) (by rw [hg]; exact g1), Or.inl ?_⟩
        unfold wRep
        rw [if_pos hw0, h]
        dsimp only
        rw [ht, wO_ic (by omega), if_neg g1]
        exact ⟨Nat.succ_pos _, rfl, rfl⟩
  · refine ⟨m, -ic 3, fun d N z => c_fixBar isS_1 hw, Or.inl ?_⟩
    unfold wRep
    rw [if_neg hw]
    exact ⟨Nat.succ_pos _, rfl, rfl⟩
end P5
