/-! plans, texts, accounts: class against reference; expanded by px.py out of p17.src -/
def Sta (n0 : Nat) (S0 : Nat → Value) (G : sH) : Prop := S0 0 = .int (ic 1) ∧ (S0 6 = .null ∨ ∃ q, S0 6 = .ref q) ∧ isDig n0 S0 G ∧ isT n0 S0 G ∧ ∃ v vv ss bb w, isVerbs n0 G S0 v vv ss bb lnF shF ∧ isSw n0 G S0 vv w
section P17
variable {n0 N z N0 z0 q T L nx cnt : Nat} {S0 : Nat → Value} {G : sH} {m m2 mF : mm} {r : Nat → Int32}
theorem Inv_plan (hI : Inv n0 N0 z0 q G m N z) (h1 : ∀ x, (x < 256 ∨ 269 ≤ x) → x ≠ 292 → x ≠ 297 → x ≠ 298 → ri mF x = ri m x) (h2 : ∀ i, i ≠ 6 → i ≠ 10 → i ≠ 11 → ri mF 292 i = ri m 292 i) (h3 : ∀ x, x ≠ 257 → rp mF x = rp m x) (h4 : JP mF) (h5 : ∀ x, x < 256 → rl mF x = rl m x) (h6 : PI6 mF) {N2 z2 : Nat} (hN : N ≤ N2) (hN2 : N2 ≤ N + 1) (hz : z2 ≤ z + 6) : Inv n0 N0 z0 (q + 1) G mF N2 z2 := by
  obtain ⟨⟨T, L, nx, cnt, hTL, hc⟩, hO⟩ := hI
  have hc2 : Core T L nx cnt mF := Core.congr (m := m) (Nat.le_refl _) h6 h4 (fun x hx => h1 x (by omega) (by omega) (by omega) (by omega)) (fun x hx => ⟨h3 x (by omega), h5 x hx⟩) (fun i hi => h2 i (by omega) (by omega) (by omega)) hc
  exact Inv_up hO ⟨T, L, nx, cnt, by omega, hc2⟩ (h1 290 (by decide) (by decide) (by decide) (by decide)) (h3 290 (by decide)) (h2 14 (by decide) (by decide) (by decide)) (h1 299 (by decide) (by decide) (by decide) (by decide)) hN hN2 hz
theorem rM_all {c : Nat} {Lx : Int32} {U : Nat → Nat} {B : Nat → Int32} : (∀ x, x ≠ 292 → x ≠ 297 → x ≠ 298 → ri (rM m c Lx U B) x = ri m x) ∧ (∀ i, i ≠ 10 → i ≠ 11 → ri (rM m c Lx U B) 292 i = ri m 292 i) ∧ (ri (rM m c Lx U B) 297 = fun i => ic (U i)) ∧ rp (rM m c Lx U B) = rp m ∧ rl (rM m c Lx U B) = rl m := by
  unfold rM
  exact ⟨fun x h1 h2 h3 => by rw [ri_an _ _ h2, ri_an _ _ h3, ri_wn _ _ _ h1, ri_wn _ _ _ h1], fun i h1 h2 => by rw [ri_an _ _ (by decide), ri_an _ _ (by decide), ri_ws, upd_n _ _ h2, ri_ws, upd_n _ _ h1], by rw [ri_as], rfl, rfl⟩
/-- behind a plan of both: mC the class's memory, the law's cell, the reference's -/
theorem Inv_pl (hI : Inv n0 N0 z0 q G m N z) {mC : mm} {v : Int64} {y : Int32} {c : Nat} {Lx : Int32} {U : Nat → Nat} {B : Nat → Int32} (hJP : JP mC) (h1 : ∀ x, (x < 256 ∨ 269 ≤ x) → ri mC x = ri m x) (h3 : ∀ x, x ≠ 257 → rp mC x = rp m x) (h5 : rl mC = rl m) (h6 : ∀ i, i < 6 → ri mC 258 i = ic 0) {N2 z2 : Nat} (hN : N ≤ N2) (hN2 : N2 ≤ N + 1) (hz : z2 ≤ z + 6) : Inv n0 N0 z0 (q + 1) G (wi (rM (tM (wl mC 303 0 v) 0) c Lx U B) 292 6 y) N2 z2 := by
  obtain ⟨r1, r2, r3, r4, r5⟩ := rM_all (m := tM (wl mC 303 0 v) 0) (c := c) (Lx := Lx) (U := U) (B := B)
  refine Inv_plan hI (fun x hx g1 g2 g3 => ?_) (fun i g1 g2 g3 => ?_) (fun x hx => ?_) ?_ (fun x hx => ?_) ⟨fun i hi => ?_, U, ?_⟩ hN hN2 hz
  · rw [ri_wn _ _ _ g1, r1 x g1 g2 g3, ri_wn _ _ _ g1]
    exact h1 x hx
  · rw [ri_ws, upd_n _ _ g1, r2 i g2 g3, ri_ws, upd_n _ _ g1]
    show ri mC 292 i = _
    rw [h1 292 (by omega)]
  · rw [rp_wi, r4]
    exact h3 x hx
  · unfold JP at hJP ⊢
    rw [rp_wi, r4]
    exact hJP
  · rw [rl_wi, r5, rl_wi]
    funext j
    rw [rl_wl, if_neg (by omega), h5]
  · rw [ri_wn _ _ _ (by decide), r1 258 (by decide) (by decide) (by decide), ri_wn _ _ _ (by decide)]
    exact h6 i hi
  · rw [ri_wn _ _ _ (by decide), r3]
theorem rM_6 {c : Nat} {Lx : Int32} {U : Nat → Nat} {B : Nat → Int32} {mC : mm} {v : Int64} : rM (tM (wl mC 303 0 v) 0) c Lx U B = wi (rM (tM (wl mC 303 0 v) 0) c Lx U B) 292 6 (ic 0) := by
  have e : ri (rM (tM (wl mC 303 0 v) 0) c Lx U B) 292 6 = ic 0 := by
    rw [rM_all.2.1 6 (by decide) (by decide), ri_ws, upd_s]
  rw [← e, wi_chain]
  have e2 : upd (ri (rM (tM (wl mC 303 0 v) 0) c Lx U B) 292) 6 (ri (rM (tM (wl mC 303 0 v) 0) c Lx U B) 292 6) = ri (rM (tM (wl mC 303 0 v) 0) c Lx U B) 292 := by
    funext j
    rw [upd_at]
    split
    · rename_i h
      rw [h]
    · rfl
  rw [e2, wa_self]
def e43 (y : Nat) : Nat := if y = 1 then 3 else 4
theorem P_bestLateness (hI : Inv n0 N0 z0 q G m N z) (hq : q ≤ 512) {w : Int32} : Pr n0 S0 N0 z0 q Int32.toInt64 110 [.int w] 203 [.int w] (1, e3) G m N z := by
  obtain ⟨⟨T, L, nx, cnt, hTL, hc⟩, _⟩ := id hI
  have hC := hc.2.2.2.2.1.2
  have hW := hc.2.2.2.2.1.1
  have hJ := hc.1.1
  have hP := hc.1.2.2.2
  obtain ⟨hch, U0, hU⟩ := hc.2.1
  obtain ⟨n, h12, h0, hN⟩ := hW.n
  have hn : ri m 1 1 = ic n := hC.1.1.trans h0
  by_cases hw : (¬ w < ic 0 ∧ w < ic 3)
  · obtain ⟨w, hw3, rfl⟩ := rng_of (by decide) hw
    obtain ⟨bs, LT, p1, p2, p3, p4, p5, p6, p7, ⟨R, p8, p9, p10⟩, p11, p12⟩ := plan_eq hC hW (by omega) hP hch hw3 U0 (ri m 298)
    rw [hN] at p1 p2 p3 p4 p5 p6 p7 p8 p10 p11 p12
    have hcl := fun d => c_bestLateness (n0 := n0) (S0 := S0) (G := G) (N := N) (z := z) (d := d + 3) hJ hP hn h12 hw3
    rw [p5] at hcl
    have e : ∀ x, (x < 256 ∨ 269 ≤ x) → ri (lrM m w n) x = ri m x := fun x hx => lrM_o hP hx
    have e293 : ri (wl (lrM m w n) 303 0 LT.toInt64) 293 = ri m 293 := e 293 (by decide)
    have e298 : ri (wl (lrM m w n) 303 0 LT.toInt64) 298 = ri m 298 := e 298 (by decide)
    have hR : plR (wl (lrM m w n) 303 0 LT.toInt64) w n U0 = some R := by
      unfold plR
      rw [e293, e298, p2]
      exact p8
    have hrf := fun (d N z : Nat) => (m_bestLateness (m_bestOf (n0 := n0) (S0 := S0) (G := G) (N := N) (z := z) (d := d + 8) (m := wl (lrM m w n) 303 0 LT.toInt64) hw3 (by rw [e293]; exact h0) h12 ((e 297 (by decide)).trans hU) (by rw [e293, p2]; exact p1) hR)).1
    rw [p9, e293, p2, rM_6] at hrf
    refine Or.inr ⟨G, lrM m w n, N, z, LT, _, hcl 20, fun _ _ => rfl, hrf 27 N z, by rw [ri_ws, upd_s], ?_, Inv_pl hI (lrM_JP hP) e (fun x _ => by rw [lrM_p.1]) lrM_p.2.1 p7 (by omega) (by omega) (by omega)⟩
    rw [rl_wi, rM_all.2.2.2.2, rl_wi, rl_wl, if_pos ⟨rfl, rfl⟩]
  · exact get_no (why := 1) hI (by decide) (by decide) (fun d => (c_bestBar (d := d + 11) hw).1) (fun d N z => (m_bestLateness (m_bestNo (d := d + 10) hw)).1)
theorem P_bestLatenessByOrders (hI : Inv n0 N0 z0 q G m N z) (hq : q ≤ 512) {w : Int32} : Pr n0 S0 N0 z0 q Int32.toInt64 111 [.int w] 210 [.int w] (1, e3) G m N z := by
  obtain ⟨⟨T, L, nx, cnt, hTL, hc⟩, _⟩ := id hI
  have hC := hc.2.2.2.2.1.2
  have hW := hc.2.2.2.2.1.1
  have hJ := hc.1.1
  have hP := hc.1.2.2.2
  obtain ⟨hch, U0, hU⟩ := hc.2.1
  obtain ⟨n, h12, h0, hN⟩ := hW.n
  have hn : ri m 1 1 = ic n := hC.1.1.trans h0
  by_cases hw : (¬ w < ic 0 ∧ w < ic 3)
  · obtain ⟨w, hw3, rfl⟩ := rng_of (by decide) hw
    obtain ⟨bs, LT, p1, p2, p3, p4, p5, p6, p7, ⟨R, p8, p9, p10⟩, p11, p12⟩ := plan_eq hC hW (by omega) hP hch hw3 U0 (ri m 298)
    rw [hN] at p1 p2 p3 p4 p5 p6 p7 p8 p10 p11 p12
    have hcl : ∀ d, Mt (n0, S0) (d + 14) 111 [.ref n0, .int (ic w)] (hp n0 G m, N, z) = oI n0 G (lbM m w n) N z LT := fun d => by
      rw [← p12]
      exact c_bestLatenessByOrders (d := d + 9) hJ hP hn h12 hw3 p11
    have e : ∀ x, (x < 256 ∨ 269 ≤ x) → ri (lbM m w n) x = ri m x := fun x hx => lbM_o hP hx
    have e293 : ri (wl (lbM m w n) 303 0 LT.toInt64) 293 = ri m 293 := e 293 (by decide)
    have e298 : ri (wl (lbM m w n) 303 0 LT.toInt64) 298 = ri m 298 := e 298 (by decide)
    have hR : plR (wl (lbM m w n) 303 0 LT.toInt64) w n U0 = some R := by
      unfold plR
      rw [e293, e298, p2]
      exact p8
    have hrf := fun (d N z : Nat) => (m_bestLateness (m_bestOf (n0 := n0) (S0 := S0) (G := G) (N := N) (z := z) (d := d + 8) (m := wl (lbM m w n) 303 0 LT.toInt64) hw3 (by rw [e293]; exact h0) h12 ((e 297 (by decide)).trans hU) (by rw [e293, p2]; exact p1) hR)).2
    rw [p9, e293, p2, rM_6] at hrf
    refine Or.inr ⟨G, lbM m w n, N, z, LT, _, hcl 26, fun _ _ => rfl, hrf 27 N z, by rw [ri_ws, upd_s], ?_, Inv_pl hI (lbM_JP hP) e (fun x hx => lbM_p.1 x hx) lbM_p.2.1 (fun i hi => ?_) (by omega) (by omega) (by omega)⟩
    · rw [rl_wi, rM_all.2.2.2.2, rl_wi, rl_wl, if_pos ⟨rfl, rfl⟩]
    · show ri (coM m (ic w) n).1 258 i = ic 0
      rw [coM_o hP n (by decide) (by decide)]
      exact hch i hi
  · exact get_no (why := 1) hI (by decide) (by decide) (fun d => (c_bestBar (d := d + 11) hw).2.1) (fun d N z => (m_bestLateness (m_bestNo (d := d + 10) hw)).2)
theorem P_planned (hI : Inv n0 N0 z0 q G m N z) (hq : q ≤ 512) {w i : Int32} : Pr n0 S0 N0 z0 q Int32.toInt64 112 [.int w, .int i] 211 [.int w, .int i] (2, e34) G m N z := by
  obtain ⟨⟨T, L, nx, cnt, hTL, hc⟩, _⟩ := id hI
  have hC := hc.2.2.2.2.1.2
  have hW := hc.2.2.2.2.1.1
  have hJ := hc.1.1
  have hP := hc.1.2.2.2
  obtain ⟨hch, U0, hU⟩ := hc.2.1
  obtain ⟨n, h12, h0, hN⟩ := hW.n
  have hn : ri m 1 1 = ic n := hC.1.1.trans h0
  by_cases hw : (¬ w < ic 0 ∧ w < ic 3)
  · obtain ⟨w, hw3, rfl⟩ := rng_of (by decide) hw
    obtain ⟨bs, LT, p1, p2, p3, p4, p5, p6, p7, ⟨R, p8, p9, p10⟩, p11, p12⟩ := plan_eq hC hW (by omega) hP hch hw3 U0 (ri m 298)
    rw [hN] at p1 p2 p3 p4 p5 p6 p7 p8 p10 p11 p12
    have hcl := fun d => c_planned (n0 := n0) (S0 := S0) (G := G) (N := N) (z := z) (d := d + 3) (i := i) hJ hP hn h12 hw3
    have e : ∀ x, (x < 256 ∨ 269 ≤ x) → ri (lrM m w n) x = ri m x := fun x hx => lrM_o hP hx
    have hrf := fun (v : Int64) (d N z : Nat) => m_planned (n0 := n0) (S0 := S0) (G := G) (N := N) (z := z) (d := d + 9) (m := wl (lrM m w n) 303 0 v) (i := i) (U0 := U0) (R := R) (V := fun j => (coU (ri m 293) w U0 n).1 (bs j)) hw3 ((congrFun (e 293 (by decide)) 0).trans h0) h12 ((e 297 (by decide)).trans hU) (by
      show (coU (ri (lrM m w n) 293) w U0 n).2 ≤ 6
      rw [e 293 (by decide), p2]
      exact p1) (by
      show plR (wl (lrM m w n) 303 0 v) w n U0 = some R
      unfold plR
      rw [show ri (wl (lrM m w n) 303 0 v) 293 = ri m 293 from e 293 (by decide), show ri (wl (lrM m w n) 303 0 v) 298 = ri m 298 from e 298 (by decide), p2]
      exact p8) (by
      intro j hj
      have hj' : j < cN m w n := by
        rw [show ri (wl (lrM m w n) 303 0 v) 293 = ri m 293 from e 293 (by decide), p2] at hj
        exact hj
      exact ⟨p10 j hj', by have := p4 (bs j) (p3 j hj'); omega⟩)
    have e2 : ∀ v, ri (wl (lrM m w n) 303 0 v) 293 = ri m 293 := fun v => e 293 (by decide)
    by_cases g : ¬ i < ic 0 ∧ i < ic (cN m w n)
    · obtain ⟨j, hj, rfl⟩ := rng_of (by omega) g
      have hv : ri (lrM m w n) 261 (ic j).toNatClampNeg = ri m 293 (42 + 8 * (coU (ri m 293) w U0 n).1 (bs j)) := by
        rw [ic_nat (by omega)]
        exact (p6 j hj).1
      have hrf2 := fun d => hrf (Int32.toInt64 (ri m 293 (42 + 8 * (coU (ri m 293) w U0 n).1 (bs j)))) d N z
      rw [e2, p2, if_pos g, ic_nat (by omega), rM_6] at hrf2
      refine Or.inr ⟨G, lrM m w n, N, z, ri m 293 (42 + 8 * (coU (ri m 293) w U0 n).1 (bs j)), _, ?_, fun _ _ => rfl, hrf2 27, by rw [ri_ws, upd_s], ?_, Inv_pl hI (lrM_JP hP) e (fun x _ => by rw [lrM_p.1]) lrM_p.2.1 p7 (by omega) (by omega) (by omega)⟩
      · have h1 := hcl 20
        rw [if_pos g, hv] at h1
        exact h1
      · rw [rl_wi, rM_all.2.2.2.2, rl_wi, rl_wl, if_pos ⟨rfl, rfl⟩]
    · have hself : wl (lrM m w n) 303 0 (rl (lrM m w n) 303 0) = lrM m w n := by
        refine mm_ext (fun _ => rfl) rfl ?_ rfl
        funext a b
        rw [rl_wl]
        split
        · rename_i h
          rw [h.1, h.2]
        · rfl
      have hrf2 := fun d => hrf (rl (lrM m w n) 303 0) d (N + 1) (z + 6)
      rw [e2, p2, if_neg g] at hrf2
      have h3 : hp n0 G (wl (lrM m w n) 303 0 (rl (lrM m w n) 303 0)) = hp n0 G (lrM m w n) := by rw [hself]
      rw [h3] at hrf2
      have hcl2 : ∀ d, Mt (n0, S0) (d + 20) 112 [.ref n0, .int (ic w), .int i] (hp n0 G m, N, z) = some (.inr (xn (e34 2)), (hp n0 G (lrM m w n), N + 1, z + 6)) := fun d => by
        have h1 := hcl d
        rw [if_neg g] at h1
        exact h1
      have hfin := Inv_pl (y := ic 2) (v := rl (lrM m w n) 303 0) (c := cN m w n) (Lx := R.2.1) (U := R.1) (B := R.2.2) hI (lrM_JP hP) e (fun x _ => by rw [lrM_p.1]) lrM_p.2.1 p7 (N2 := N + 1) (z2 := z + 6) (by omega) (by omega) (by omega)
      exact Or.inl ⟨2, lrM m w n, _, ic 0, by decide, by decide, hcl2 20, hrf2 27, by rw [ri_ws, upd_s], hfin⟩
  · exact get_no (why := 1) hI (by decide) (by decide) (fun d => (c_bestBar (d := d + 11) hw).2.2 i) (fun d N z => (m_writeNo (d := d + 11) hw).2.2 i)
end P17
