/-! texts and accounts: class against reference; expanded by px.py out of p18.src -/
def xA (e : Nat) : Nat := e + 5
/-- a call that answers a double or throws -/
def Pm (n0 : Nat) (S0 : Nat → Value) (N0 z0 q : Nat) (G : sH) (m : mm) (N z : Nat) : Prop :=
  (∃ m2, (Mt (n0, S0) 40 114 [.ref n0] (hp n0 G m, N, z) = some (.inr "java/lang/ArithmeticException", (hp n0 G m, N + 1, z + 6))) ∧ (Mt (n0, S0) 41 216 [.ref (n0 + 292)] (hp n0 G m, N + 1, z + 6) = some (.inl (some (.double FP.dconst0)), (hp n0 G m2, N + 1, z + 6))) ∧ ri m2 292 6 = ic 1 ∧ Inv n0 N0 z0 (q + 1) G m2 (N + 1) (z + 6)) ∨
  ∃ v m2, FP.Core.val64 v ≠ .nan ∧ (Mt (n0, S0) 40 114 [.ref n0] (hp n0 G m, N, z) = some (.inl (some (.double v)), (hp n0 G m, N, z))) ∧ (Mt (n0, S0) 41 216 [.ref (n0 + 292)] (hp n0 G (wd m 304 0 v), N, z) = some (.inl (some (.double v)), (hp n0 G m2, N, z))) ∧ ri m2 292 6 = ic 0 ∧ rd m2 304 0 = v ∧ Inv n0 N0 z0 (q + 1) G m2 N z
theorem l2d_i2d (x : Int32) : FP.l2d x.toInt64 = FP.i2d x := by
  apply UInt64.toNat.inj
  show (FP.Core.l2d x.toInt64).toNat = (FP.Core.i2d x).toNat
  rw [FP.Core.toNat_l2d, FP.Core.toNat_i2d, Int32.toInt_toInt64]
theorem dd_out (a b : Int32) (hb : b ≠ 0) : FP.Core.dIsNaN (FP.Core.ddiv (FP.Core.i2d a) (FP.Core.i2d b)) = false := FP.Core.ddiv_out (FP.Core.i2d_fin a).notNaN (FP.Core.i2d_fin b) (fun z => FP.Core.i2d_ne_zero hb ((FP.Core.zero_bits2 _).mp z))
theorem dd_ok (a b : Int32) (hb : b ≠ 0) : FP.ddiv (FP.i2d a) (FP.i2d b) &&& 0x7fffffffffffffff ≤ 0x7ff0000000000000 := by
  have h := dd_out a b hb
  have h2 : ¬ 9218868437227405312 < (FP.Core.ddiv (FP.Core.i2d a) (FP.Core.i2d b)).toNat % 2 ^ 63 := fun z => by
    rw [← FP.Core.isNaN_bits, h] at z
    cases z
  rw [UInt64.le_iff_toNat_le, UInt64.toNat_and]
  show (FP.Core.ddiv (FP.Core.i2d a) (FP.Core.i2d b)).toNat &&& 9223372036854775807 ≤ 9218868437227405312
  rw [show (9223372036854775807 : Nat) = 2 ^ 63 - 1 from rfl, Nat.and_two_pow_sub_one_eq_mod]
  omega
theorem sub_toInt {a b : Nat} (ha : a < 1000000000) (hb : b < 1000000000) : (ic a - ic b).toInt = (a : Int) - b := by
  rw [Int32.toInt_sub, ic_toInt (by omega), ic_toInt (by omega)]
  exact Int.bmod_eq_of_le (by omega) (by omega)
theorem tlF_c {P Q : Nat → Prop} [DecidablePred P] [DecidablePred Q] (s : tx) : ∀ t, (∀ i, i < t → (P i ↔ Q i)) → tlF P s t = tlF Q s t := by
  intro t
  induction t with
  | zero => intro _; rfl
  | succ t ih =>
    intro h
    have h1 := ih (fun i hi => h i (by omega))
    have h2 := h t (by omega)
    show (if P t then wI (wT (tlF P s t)) t else tlF P s t) = (if Q t then wI (wT (tlF Q s t)) t else tlF Q s t)
    rw [h1]
    by_cases g : Q t
    · rw [if_pos g, if_pos (h2.mpr g)]
    · rw [if_neg g, if_neg (fun z => g (h2.mp z))]
theorem SB_128 {n0 N k c : Nat} {G : sH} {m : mm} {f : Nat → Nat} (h : SB n0 G m N k c f) : ∀ i, i < c → f i < 128 := fun i hi => by
  obtain ⟨g, _, _, _, b4, b5, _⟩ := h
  rw [← b5 i hi]
  exact b4 i
section P18
variable {n0 N z N0 z0 q T L nx cnt : Nat} {S0 : Nat → Value} {G : sH} {m m2 mF : mm} {r : Nat → Int32}
theorem P_charAt (hI : Inv n0 N0 z0 q G m N z) (hq : q ≤ 512) (hS : Sta n0 S0 G) {i : Int32} : Pr n0 S0 N0 z0 q Int32.toInt64 118 [.int i] 225 [.int i] (1, e3) G m N z := by
  obtain ⟨_, k, c, f, ⟨o1, o2, o3, o4, o5⟩, _⟩ := id hI
  have hcl := fun d => c_charAt (n0 := n0) (S0 := S0) (G := G) (N := N) (z := z) (d := d + 9) (i := i) o1 hS.2.1
  have hrf := fun (m' : mm) (h1 : ri m' 292 = ri m 292) (h2 : ri m' 299 = ri m 299) (d N z : Nat) => m_charAt (n0 := n0) (S0 := S0) (G := G) (N := N) (z := z) (d := d + 12) (m := m') (i := i) (c := c) (f := f) (by rw [h1]; exact o2) o3 (by rw [h2]; exact o4) o5
  by_cases g : ¬ i < ic 0 ∧ i < ic c
  · refine get_ok hI (v := ic (f i.toNatClampNeg)) (fun d => ?_) (fun d => ?_)
    · rw [hcl d, if_pos g]
    · exact (hrf (wl m 303 0 _) rfl rfl d N z).trans (if_pos g)
  · refine get_no (why := 1) (b := ic 32) hI (by decide) (by decide) (fun d => ?_) (fun d N z => ?_)
    · rw [hcl d, if_neg g]
      rfl
    · exact (hrf m rfl rfl d N z).trans (if_neg g)
theorem OI_up {N1 z1 k k1 : Nat} {G1 : sH} {m1 mF : mm} {s : tx} (hIc : ∃ T L nx cnt, T + L ≤ q ∧ Core T L nx cnt m) (hN : N ≤ N0 + q + k) (hz : z ≤ z0 + 6 * q + zcap k) (hs : ST n0 G m2 N z k G1 m1 N1 z1 k1 s) (hs1 : s.1 ≤ 100) (hC : ∃ T L nx cnt, T + L ≤ q + 1 ∧ Core T L nx cnt mF) (h1 : ri mF 290 = ri m1 290) (h2 : rp mF 290 = rp m1 290) (h3 : ri mF 292 14 = ic s.1) (h4 : ri mF 299 = fun i => ic (s.2 i)) : Inv n0 N0 z0 (q + 1) G1 mF N1 z1 := by
  obtain ⟨a1, a2, a3, a4, a5, a6⟩ := hs
  exact ⟨hC, k1, s.1, s.2, ⟨SB_m h1 h2 a1, h3, hs1, h4, SB_128 a1⟩, by omega, by omega⟩
theorem P_writeBarrow (hI : Inv n0 N0 z0 q G m N z) (hq : q ≤ 512) (hS : Sta n0 S0 G) {w : Int32} : Pr n0 S0 N0 z0 q Int32.toInt64 116 [.int w] 221 [.int w] (1, e3) G m N z := by
  obtain ⟨⟨T, L, nx, cnt, hTL, hc⟩, k, c, f, ⟨o1, o2, o3, o4, o5⟩, oN, oz⟩ := id hI
  have hC := hc.2.2.2.2.1.2
  have hW := hc.2.2.2.2.1.1
  by_cases hw : (¬ w < ic 0 ∧ w < ic 3)
  · obtain ⟨w, hw3, rfl⟩ := rng_of (by decide) hw
    obtain ⟨⟨x, x1, x2⟩, ⟨y, y1, y2⟩, ⟨t, t1, t2⟩, P, hP, hP2⟩ := hW.bar hw3
    dsimp only at x2 y2 t2 hP
    have fb := (hC.2.2.2.1 w hw3).1
    have fp := (hC.2.2.2.1 w hw3).2
    have hPb : ∀ i, i < 4 → P i < 100000 := fun i hi => by
      rcases (by omega : i = 0 ∨ i = 1 ∨ i = 2 ∨ i = 3) with rfl | rfl | rfl | rfl <;> omega
    have hcl := fun d => c_writeBarrow (n0 := n0) (S0 := S0) (G := G) (N := N) (z := z) (d := d) (x := x) (y := y) (t := t) (P := P) o1 hS.1 hS.2.2.1 hS.2.2.2.1 hw3 ⟨(fb 0 (by decide)).trans x2, by omega⟩ ⟨(fb 1 (by decide)).trans y2, by omega⟩ ⟨(fb 2 (by decide)).trans t2, by omega⟩ (fun i hi => ⟨(fp i hi).trans (hP i hi), hPb i hi⟩)
    have et : tlF (fun t => ri m 5 t = ic w) (hdF w x y t f) 6 = tlF (fun t => ri m 293 (12 + t) = ic (w + 1)) (hdF w x y t f) 6 := tlF_c _ 6 (fun j hj => by
      rw [show ri m 5 j = ri m 293 (12 + j) - ic 1 from hC.2.2.1 j hj, sub1, ic_add])
    rw [et] at hcl
    have hlen : (kdF P (tlF (fun t => ri m 293 (12 + t) = ic (w + 1)) (hdF w x y t f) 6) 4).1 ≤ 100 := by
      have h1 := kdF_le P (tlF (fun t => ri m 293 (12 + t) = ic (w + 1)) (hdF w x y t f) 6) 4
      have h2 := tlF_le (fun t => ri m 293 (12 + t) = ic (w + 1)) (hdF w x y t f) 6
      have h3 := hdF_le w x y t f
      omega
    have hrf := fun (m' : mm) (h1 : ri m' 293 = ri m 293) (h2 : ri m' 299 = ri m 299) (d N z : Nat) (G : sH) => m_writeBarrow (n0 := n0) (S0 := S0) (G := G) (N := N) (z := z) (d := d + 9) (m := m') (f := f) (x := x) (y := y) (t := t) (P := P) hw3 (by rw [h2]; exact o4) (by rw [h1]; exact ⟨x2, by omega⟩) (by rw [h1]; exact ⟨y2, by omega⟩) (by rw [h1]; exact ⟨t2, by omega⟩) (by rw [h1]; exact fun i hi => ⟨hP i hi, hPb i hi⟩)
    generalize hs : kdF P (tlF (fun t => ri m 293 (12 + t) = ic (w + 1)) (hdF w x y t f) 6) 4 = s at hcl hlen
    obtain ⟨G1, m1, N1, z1, k1, hc0, hst⟩ := hcl 32
    have hq2 := hst.2.2.1
    have e293 : ri (wl m1 303 0 (ic s.1).toInt64) 293 = ri m 293 := (hq2.1 293 (by decide)).1
    have e299 : ri (wl m1 303 0 (ic s.1).toInt64) 299 = ri m 299 := (hq2.1 299 (by decide)).1
    have h2 := hrf (wl m1 303 0 (ic s.1).toInt64) e293 e299 27 N1 z1 G1
    rw [e293, hs] at h2
    have hA : ∀ x, x ≠ 292 → x ≠ 299 → ri (oM (tM (wl m1 303 0 (ic s.1).toInt64) 0) s) x = ri m1 x := fun x h1 h2 => by
      rw [oM_o h1 h2, ri_wn _ _ _ h1]
      rfl
    have hA2 : ∀ i, i ≠ 14 → i ≠ 6 → ri (oM (tM (wl m1 303 0 (ic s.1).toInt64) 0) s) 292 i = ri m 292 i := fun i h1 h2 => by
      unfold oM
      rw [ri_an _ _ (by decide), ri_ws, upd_n _ _ h1, ri_ws, upd_n _ _ h2]
      show ri m1 292 i = _
      rw [(hq2.1 292 (by decide)).1]
    have hrl : rl (oM (tM (wl m1 303 0 (ic s.1).toInt64) 0) s) = rl (wl m1 303 0 (ic s.1).toInt64) := rfl
    have hrp : rp (oM (tM (wl m1 303 0 (ic s.1).toInt64) 0) s) = rp m1 := rfl
    refine Or.inr ⟨G1, m1, N1, z1, ic s.1, _, hc0, hst.2.1, h2, ?_, ?_, OI_up hI.1 oN oz hst hlen ⟨T, L, nx, cnt, by omega, Core.congr (m := m) (Nat.le_refl _) ?_ ?_ (fun x hx => ?_) (fun x hx => ⟨?_, ?_⟩) (fun i hi => hA2 i (by omega) (by omega)) hc⟩ (hA 290 (by decide) (by decide)) (by rw [hrp]) ?_ ?_⟩
    · unfold oM
      rw [ri_an _ _ (by decide), ri_ws, upd_n _ _ (by decide), ri_ws, upd_s]
    · rw [hrl, rl_wl, if_pos ⟨rfl, rfl⟩]
    · unfold PI6
      rw [hA 258 (by decide) (by decide), hA 297 (by decide) (by decide), (hq2.1 258 (by decide)).1, (hq2.1 297 (by decide)).1]
      exact hc.2.1
    · have := hc.1.2.2.2
      unfold JP at this ⊢
      rw [hrp, (hq2.1 257 (by decide)).2]
      exact this
    · rw [hA x (by omega) (by omega), (hq2.1 x (by omega)).1]
    · rw [hrp, (hq2.1 x (by omega)).2]
    · rw [hrl]
      funext j
      rw [rl_wl, if_neg (by omega), hq2.2.1]
    · unfold oM
      rw [ri_an _ _ (by decide), ri_ws, upd_s]
    · unfold oM
      rw [ri_as]
  · exact get_no (why := 1) hI (by decide) (by decide) (fun d => (c_writeBar (d := d + 11) hw).1) (fun d N z => (m_writeNo (d := d + 11) hw).1)
theorem P_writePlan (hI : Inv n0 N0 z0 q G m N z) (hq : q ≤ 512) (hS : Sta n0 S0 G) {w : Int32} : Pr n0 S0 N0 z0 q Int32.toInt64 117 [.int w] 224 [.int w] (1, e3) G m N z := by
  obtain ⟨⟨T, L, nx, cnt, hTL, hc⟩, k, c, f, ⟨o1, o2, o3, o4, o5⟩, oN, oz⟩ := id hI
  have hC := hc.2.2.2.2.1.2
  have hW := hc.2.2.2.2.1.1
  have hJ := hc.1.1
  have hP := hc.1.2.2.2
  obtain ⟨hch, U0, hU⟩ := hc.2.1
  obtain ⟨n, h12, h0, hN⟩ := hW.n
  have hn : ri m 1 1 = ic n := hC.1.1.trans h0
  by_cases hw : (¬ w < ic 0 ∧ w < ic 3)
  · obtain ⟨w, hw3, rfl⟩ := rng_of (by decide) hw
    obtain ⟨bs, LT, p1, p2, p3, p4, p5, p6, p7, ⟨R, p8, p9, p10⟩, p11, p12⟩ := plan_eq hC hW (by omega) hP hch hw3 U0 (ri m 298)
    rw [hN] at p1 p2 p3 p4 p5 p6 p7 p8 p10 p11 p12
    have hO : ∀ i, i < cN m w n → ri m 293 (42 + 8 * (coU (ri m 293) w U0 n).1 (bs i)) = ic (ri m 293 (42 + 8 * (coU (ri m 293) w U0 n).1 (bs i))).toNatClampNeg ∧ (ri m 293 (42 + 8 * (coU (ri m 293) w U0 n).1 (bs i))).toNatClampNeg < 100000 := fun i hi => by
      obtain ⟨x, x1, x2⟩ := (hW.job (i := (coU (ri m 293) w U0 n).1 (bs i)) (by rw [hN]; exact p4 _ (p3 i hi))).1
      have x2' : ri m 293 (42 + 8 * (coU (ri m 293) w U0 n).1 (bs i)) = ic x := x2
      rw [x2', ic_nat (by omega)]
      exact ⟨rfl, by omega⟩
    have hF : ∀ i, i < cN m w n → ri (lrM m w n) 262 i = ic (ri (lrM m w n) 262 i).toNatClampNeg ∧ (ri (lrM m w n) 262 i).toNatClampNeg < 100000 := fun i hi => by
      obtain ⟨x, x1, x2⟩ := (p6 i hi).2.2
      rw [x2, ic_nat (by omega)]
      exact ⟨rfl, by omega⟩
    have hcl := c_writePlan (n0 := n0) (S0 := S0) (G := G) (N := N) (z := z) (d := 23) (O := fun i => (ri m 293 (42 + 8 * (coU (ri m 293) w U0 n).1 (bs i))).toNatClampNeg) (F := fun i => (ri (lrM m w n) 262 i).toNatClampNeg) o1 hS.1 hS.2.2.1 hJ hP hn h12 hw3 (fun i hi => by rw [(p6 i hi).1]; exact hO i hi) hF
    have hlen : (plF (fun i => (ri m 293 (42 + 8 * (coU (ri m 293) w U0 n).1 (bs i))).toNatClampNeg) (fun i => (ri (lrM m w n) 262 i).toNatClampNeg) (0, f) (cN m w n)).1 ≤ 100 := by
      have := plF_le (fun i => (ri m 293 (42 + 8 * (coU (ri m 293) w U0 n).1 (bs i))).toNatClampNeg) (fun i => (ri (lrM m w n) 262 i).toNatClampNeg) (0, f) (cN m w n)
      have h0 : ((0, f) : tx).1 = 0 := rfl
      omega
    have e : ∀ x, (x < 256 ∨ 269 ≤ x) → ri (lrM m w n) x = ri m x := fun x hx => lrM_o hP hx
    have hrf := fun (m' : mm) (h1 : ri m' 293 = ri m 293) (h2 : ri m' 299 = ri m 299) (h3 : ri m' 297 = ri m 297) (h4 : ri m' 298 = ri m 298) (N z : Nat) (G : sH) => m_writePlan (n0 := n0) (S0 := S0) (G := G) (N := N) (z := z) (d := 36) (m := m') (f := f) (U0 := U0) (R := R) (V := fun j => (coU (ri m 293) w U0 n).1 (bs j)) (O := fun i => (ri m 293 (42 + 8 * (coU (ri m 293) w U0 n).1 (bs i))).toNatClampNeg) (F := fun i => (ri (lrM m w n) 262 i).toNatClampNeg) hw3 (by rw [h1]; exact h0) h12 (by rw [h3]; exact hU) (by rw [h1, p2]; exact p1) (by unfold plR; rw [h1, h4, p2]; exact p8) (by rw [h1, p2]; exact fun j hj => ⟨p10 j hj, by have := p4 (bs j) (p3 j hj); omega⟩) (by rw [h2]; exact o4) (by rw [h1, p2]; exact fun i hi => hO i hi) (by rw [h1, p2]; exact fun i hi => ⟨((p6 i hi).2.1.symm).trans (hF i hi).1, (hF i hi).2⟩)
    generalize hs : plF (fun i => (ri m 293 (42 + 8 * (coU (ri m 293) w U0 n).1 (bs i))).toNatClampNeg) (fun i => (ri (lrM m w n) 262 i).toNatClampNeg) (0, f) (cN m w n) = s at hcl hlen
    obtain ⟨G1, m1, N1, z1, k1, hc0, hst⟩ := hcl
    have hq2 := hst.2.2.1
    have e1 : ∀ x, x ≠ 290 → (x < 256 ∨ 269 ≤ x) → ri m1 x = ri m x := fun x h1 h2 => ((hq2.1 x h1).1).trans (e x h2)
    have h2 := hrf (wl m1 303 0 (ic s.1).toInt64) (e1 293 (by decide) (by decide)) (e1 299 (by decide) (by decide)) (e1 297 (by decide) (by decide)) (e1 298 (by decide) (by decide)) N1 z1 G1
    have e293 : ri (wl m1 303 0 (ic s.1).toInt64) 293 = ri m 293 := e1 293 (by decide) (by decide)
    rw [e293, p2, hs] at h2
    obtain ⟨r1, r2, r3, r4, r5⟩ := rM_all (m := tM (wl m1 303 0 (ic s.1).toInt64) 0) (c := cN m w n) (Lx := R.2.1) (U := R.1) (B := R.2.2)
    have hA : ∀ x, x ≠ 292 → x ≠ 299 → x ≠ 297 → x ≠ 298 → ri (oM (rM (tM (wl m1 303 0 (ic s.1).toInt64) 0) (cN m w n) R.2.1 R.1 R.2.2) s) x = ri m1 x := fun x h1 h2 h3 h4 => by
      rw [oM_o h1 h2, r1 x h1 h3 h4, ri_wn _ _ _ h1]
      rfl
    have hA2 : ∀ i, i ≠ 14 → i ≠ 6 → i ≠ 10 → i ≠ 11 → ri (oM (rM (tM (wl m1 303 0 (ic s.1).toInt64) 0) (cN m w n) R.2.1 R.1 R.2.2) s) 292 i = ri m 292 i := fun i h1 h2 h3 h4 => by
      unfold oM
      rw [ri_an _ _ (by decide), ri_ws, upd_n _ _ h1, r2 i h3 h4, ri_ws, upd_n _ _ h2]
      show ri m1 292 i = _
      rw [e1 292 (by decide) (by decide)]
    have hrl : rl (oM (rM (tM (wl m1 303 0 (ic s.1).toInt64) 0) (cN m w n) R.2.1 R.1 R.2.2) s) = rl (wl m1 303 0 (ic s.1).toInt64) := rfl
    have hrp : rp (oM (rM (tM (wl m1 303 0 (ic s.1).toInt64) 0) (cN m w n) R.2.1 R.1 R.2.2) s) = rp m1 := rfl
    refine Or.inr ⟨G1, m1, N1, z1, ic s.1, _, hc0, hst.2.1, h2, ?_, ?_, OI_up hI.1 oN oz hst hlen ⟨T, L, nx, cnt, by omega, Core.congr (m := m) (Nat.le_refl _) ⟨fun i hi => ?_, R.1, ?_⟩ ?_ (fun x hx => ?_) (fun x hx => ⟨?_, ?_⟩) (fun i hi => hA2 i (by omega) (by omega) (by omega) (by omega)) hc⟩ (hA 290 (by decide) (by decide) (by decide) (by decide)) (by rw [hrp]) ?_ ?_⟩
    · unfold oM
      rw [ri_an _ _ (by decide), ri_ws, upd_n _ _ (by decide), r2 6 (by decide) (by decide), ri_ws, upd_s]
    · rw [hrl, rl_wl, if_pos ⟨rfl, rfl⟩]
    · rw [hA 258 (by decide) (by decide) (by decide) (by decide), (hq2.1 258 (by decide)).1]
      exact p7 i hi
    · rw [oM_o (by decide) (by decide), r3]
    · have := lrM_JP hP (w := w) (n := n)
      unfold JP at this ⊢
      rw [hrp, (hq2.1 257 (by decide)).2]
      exact this
    · rw [hA x (by omega) (by omega) (by omega) (by omega), e1 x (by omega) (by omega)]
    · rw [hrp, (hq2.1 x (by omega)).2, lrM_p.1]
    · rw [hrl]
      funext j
      rw [rl_wl, if_neg (by omega), hq2.2.1, lrM_p.2.1]
    · unfold oM
      rw [ri_an _ _ (by decide), ri_ws, upd_s]
    · unfold oM
      rw [ri_as]
  · exact get_no (why := 1) hI (by decide) (by decide) (fun d => (c_writeBar (d := d + 11) hw).2) (fun d N z => (m_writeNo (d := d + 11) hw).2.1)
theorem P_mean (hI : Inv n0 N0 z0 q G m N z) (hq : q ≤ 512) : Pm n0 S0 N0 z0 q G m N z := by
  obtain ⟨⟨T, L, nx, cnt, hTL, hc⟩, hO⟩ := id hI
  have hC := hc.2.2.2.2.1.2
  have hW := hc.2.2.2.2.1.1
  have h2 : isN (ri m 293 2) T := by
    obtain ⟨n, nx, late, work, ⟨h1, h2, h3, h4, h5, h6, h7, h8, h9⟩, _⟩ := hW
    exact h7
  obtain ⟨x, x1, x2⟩ := h2
  have e6 : ri m 1 6 = ri m 293 2 := hC.1.2.2.1
  have e8 : rl m 1 8 = (ri m 293 3).toInt64 := hC.1.2.2.2.1
  by_cases g : x = 0
  · subst g
    refine Or.inl ⟨_, c_meanNo (d := 39) (e6.trans x2), m_meanNo (d := 39) (by rw [x2]; decide), by rw [ri_ws, upd_s], Inv_t0 hI _ (by omega) (by omega) (by omega)⟩
  · have hne : ri m 293 2 ≠ 0 := by
      rw [x2, show (0 : Int32) = ic 0 from rfl, Ne, ic_eq (by omega) (by omega)]
      exact g
    have hb := dd_ok (ri m 293 3) (ri m 293 2) hne
    have hcl := c_meanOk (n0 := n0) (S0 := S0) (G := G) (N := N) (z := z) (m := m) (d := 39) (by rw [e6]; exact hne) (by rw [e8, e6, l2d_i2d]; exact hb)
    rw [e8, e6, l2d_i2d] at hcl
    have hrf := m_mean (n0 := n0) (S0 := S0) (G := G) (N := N) (z := z) (d := 39) (m := wd m 304 0 (FP.ddiv (FP.i2d (ri m 293 3)) (FP.i2d (ri m 293 2)))) (by show ic 0 < ri m 293 2; rw [x2, ic_lt (by omega) (by omega)]; omega) hb
    have hc2 : Core T L nx cnt (tM (wd m 304 0 (FP.ddiv (FP.i2d (ri m 293 3)) (FP.i2d (ri m 293 2)))) 0) := Core.congr (m := m) (Nat.le_refl _) hc.2.1 hc.1.2.2.2 (fun x hx => ri_wn _ _ _ (by omega)) (fun y hy => ⟨rfl, rfl⟩) (fun i hi => by rw [ri_ws, upd_n _ _ (by omega)]; rfl) hc
    refine Or.inr ⟨_, _, ?_, hcl, hrf, by rw [ri_ws, upd_s], ?_, Inv_up hO ⟨T, L, nx, cnt, by omega, hc2⟩ (ri_wn _ _ _ (by decide)) rfl (by rw [ri_ws, upd_n _ _ (by decide)]; rfl) (ri_wn _ _ _ (by decide)) (Nat.le_refl _) (by omega) (by omega)⟩
    · exact (FP.Core.notNaN_iff _).mp (dd_out _ _ hne)
    · rw [rd_wi, rd_wd, if_pos ⟨rfl, rfl⟩]
theorem cnt3 (A B C D : Nat → Prop) [DecidablePred A] [DecidablePred B] [DecidablePred C] [DecidablePred D] : ∀ n, (∀ i, i < n → (if A i then 1 else 0) + (if B i then 1 else 0) + (if C i then 1 else 0) = if D i then 1 else 0) → cntF A n + cntF B n + cntF C n = cntF D n := by
  intro n
  induction n with
  | zero => intro _; rfl
  | succ n ih =>
    intro h
    have h1 := ih (fun i hi => h i (by omega))
    have h2 := h n (by omega)
    show cntF A n + (if A n then 1 else 0) + (cntF B n + (if B n then 1 else 0)) + (cntF C n + (if C n then 1 else 0)) = cntF D n + (if D n then 1 else 0)
    omega
theorem Q_share (hI : Inv n0 N0 z0 q G m N z) : ∃ k, k ≤ 6 ∧ Pq n0 S0 N0 z0 q 68 [] 217 [] (.float (FP.fdiv (FP.i2f (ic k)) 1086324736)) G m N z := by
  obtain ⟨⟨T, L, nx, cnt, hTL, hc⟩, _⟩ := id hI
  have hC := hc.2.2.2.2.1.2
  have hW := hc.2.2.2.2.1.1
  have e : cntF (fun i => ri m 293 (12 + i) = ic 0 + ic 1) 6 + cntF (fun i => ri m 293 (12 + i) = ic 1 + ic 1) 6 + cntF (fun i => ri m 293 (12 + i) = ic 2 + ic 1) 6 = cntF (fun i => ¬ ri m 5 i = -ic 1) 6 := cnt3 _ _ _ _ 6 (fun i hi => by
    obtain ⟨h, h1, h2⟩ := hW.ho hi
    have e5 : ri m 5 i = ri m 293 (12 + i) - ic 1 := hC.2.2.1 i hi
    rw [e5, h2]
    rcases (by omega : h = 0 ∨ h = 1 ∨ h = 2 ∨ h = 3) with rfl | rfl | rfl | rfl <;> decide)
  have h6 := cntF_le (fun i => ¬ ri m 5 i = -ic 1) 6
  refine ⟨_, h6, get_q hI (fun d => c_borrowedShare (d := d + 13)) (fun d => m_borrowed (d := d + 11) ?_ (share_nn h6))⟩
  rw [ic_add, ic_add, e]
theorem RW.ern (hW : RW T r) (hT : T ≤ 512) : ∃ e : Nat → Int, (∀ w, w < 3 → (r (18 + 8 * w + 3)).toInt = e w ∧ -60000000 ≤ e w ∧ e w ≤ 60000000) ∧ ∃ work late : Nat, work ≤ 4096 ∧ late ≤ 30000000 ∧ r 4 = ic work ∧ r 3 = ic late ∧ e 0 + e 1 + e 2 = 10 * work - 2 * late := by
  obtain ⟨n, nx, late, work, ⟨h1, h2, h3, h4, h5, h6, h7, h8, h9⟩, _, _, _, ⟨p, q, a1, a2, a3⟩, _⟩ := hW
  have hl : late ≤ 30000000 := Nat.le_trans h3 (Nat.le_trans (sqM hT) (by decide))
  refine ⟨fun w => 10 * p w - 2 * q w, fun w hw => ?_, work, late, by omega, hl, h9, h8, by dsimp only; omega⟩
  have hp : p w ≤ work ∧ q w ≤ late := by
    rcases (by omega : w = 0 ∨ w = 1 ∨ w = 2) with rfl | rfl | rfl <;> omega
  have := a1 w hw
  dsimp only at this ⊢
  rw [this, sub_toInt (by omega) (by omega)]
  omega
theorem tot3 {x y w : Int32} {a b c : Int} (hx : x.toInt = a ∧ -60000000 ≤ a ∧ a ≤ 60000000) (hy : y.toInt = b ∧ -60000000 ≤ b ∧ b ≤ 60000000) (hw : w.toInt = c ∧ -60000000 ≤ c ∧ c ≤ 60000000) : (0 + x.toInt64 + y.toInt64 + w.toInt64).toInt = a + b + c ∧ ((x + y + w).toInt64).toInt = a + b + c := by
  constructor
  · rw [Int64.zero_add, Int64.toInt_add, Int64.toInt_add, Int32.toInt_toInt64, Int32.toInt_toInt64, Int32.toInt_toInt64, hx.1, hy.1, hw.1, Int.bmod_eq_of_le (n := a + b) (by omega) (by omega), Int.bmod_eq_of_le (by omega) (by omega)]
  · rw [Int32.toInt_toInt64, Int32.toInt_add, Int32.toInt_add, hx.1, hy.1, hw.1, Int.bmod_eq_of_le (n := a + b) (by omega) (by omega), Int.bmod_eq_of_le (by omega) (by omega)]
theorem hrs {a b : Nat} (ha : a ≤ 4096) (hb : b ≤ 30000000) : (10 * (ic a).toInt64 - 2 * (ic b).toInt64).toInt = 10 * (a : Int) - 2 * b ∧ ((ic 10 * ic a - ic 2 * ic b).toInt64).toInt = 10 * (a : Int) - 2 * b := by
  constructor
  · rw [Int64.toInt_sub, Int64.toInt_mul, Int64.toInt_mul, Int32.toInt_toInt64, Int32.toInt_toInt64, ic_toInt (by omega), ic_toInt (by omega), show (10 : Int64).toInt = 10 from rfl, show (2 : Int64).toInt = 2 from rfl, Int.bmod_eq_of_le (n := 10 * (a : Int)) (by omega) (by omega), Int.bmod_eq_of_le (n := 2 * (b : Int)) (by omega) (by omega), Int.bmod_eq_of_le (by omega) (by omega)]
  · rw [Int32.toInt_toInt64, ic_mul, ic_mul, sub_toInt (by omega) (by omega)]
    omega
theorem Q_total (hI : Inv n0 N0 z0 q G m N z) (hq : q ≤ 512) : ∃ V, Pq n0 S0 N0 z0 q 65 [] 213 [] (.long V) G m N z := by
  obtain ⟨⟨T, L, nx, cnt, hTL, hc⟩, _⟩ := id hI
  have hC := hc.2.2.2.2.1.2
  have hW := hc.2.2.2.2.1.1
  obtain ⟨e, he, _⟩ := hW.ern (by omega)
  have hcl := fun d => c_totalEarnings (n0 := n0) (S0 := S0) (G := G) (N := N) (z := z) (m := m) (d := d + 13)
  have f0 : ri m 18 3 = ri m 293 21 := (hC.2.2.2.1 0 (by decide)).1 3 (by decide)
  have f1 : ri m 20 3 = ri m 293 29 := (hC.2.2.2.1 1 (by decide)).1 3 (by decide)
  have f2 : ri m 22 3 = ri m 293 37 := (hC.2.2.2.1 2 (by decide)).1 3 (by decide)
  have ht := tot3 (he 0 (by decide)) (he 1 (by decide)) (he 2 (by decide))
  have e2 : 0 + (ri m 293 21).toInt64 + (ri m 293 29).toInt64 + (ri m 293 37).toInt64 = (ri m 293 21 + ri m 293 29 + ri m 293 37).toInt64 := Int64.toInt_inj.mp (ht.1.trans ht.2.symm)
  rw [f0, f1, f2, e2] at hcl
  exact ⟨_, get_q hI hcl (fun d => m_totalEarnings (d := d + 12))⟩
theorem Q_byHours (hI : Inv n0 N0 z0 q G m N z) (hq : q ≤ 512) : ∃ V, Pq n0 S0 N0 z0 q 66 [] 214 [] (.long V) G m N z := by
  obtain ⟨⟨T, L, nx, cnt, hTL, hc⟩, _⟩ := id hI
  have hC := hc.2.2.2.2.1.2
  have hW := hc.2.2.2.2.1.1
  obtain ⟨e, he, work, late, w1, w2, w3, w4, _⟩ := hW.ern (by omega)
  have hcl := fun d => c_totalByHours (n0 := n0) (S0 := S0) (G := G) (N := N) (z := z) (m := m) (d := d + 13)
  have ht := hrs w1 w2
  have e2 : 10 * rl m 1 7 - 2 * rl m 1 8 = (ic 10 * ri m 293 4 - ic 2 * ri m 293 3).toInt64 := by
    rw [hC.1.2.2.2.2, hC.1.2.2.2.1, w3, w4]
    exact Int64.toInt_inj.mp (ht.1.trans ht.2.symm)
  rw [e2] at hcl
  exact ⟨_, get_q hI hcl (fun d => m_totalByHours (d := d + 12))⟩
theorem Q_consistent (hI : Inv n0 N0 z0 q G m N z) (hq : q ≤ 512) : Pq n0 S0 N0 z0 q 69 [] 220 [] (.int (ic 1)) G m N z := by
  obtain ⟨⟨T, L, nx, cnt, hTL, hc⟩, _⟩ := id hI
  have hC := hc.2.2.2.2.1.2
  have hW := hc.2.2.2.2.1.1
  have hJ := hc.1.1
  have hP := hc.1.2.2.2
  obtain ⟨hch, U0, hU⟩ := hc.2.1
  obtain ⟨n, h12, h0, hN⟩ := hW.n
  have hn : ri m 1 1 = ic n := hC.1.1.trans h0
  have hB0 : Nat → Int32 := fun _ => 0
  have key : ∀ w, w < 4 → CL (csM m n w) 1 (ri m 293) ∧ JP (csM m n w) ∧ ∀ i, i < 6 → ri (csM m n w) 258 i = ic 0 := by
    intro w
    induction w with
    | zero => intro _; exact ⟨hC, hP, hch⟩
    | succ w ih =>
      intro hw
      obtain ⟨k1, k2, k3⟩ := ih (by omega)
      obtain ⟨c1, c2, c3, c4, c5⟩ := csM_o hP (n := n) (w + 1)
      obtain ⟨bs, LT, p1, p2, p3, p4, p5, p6, p7, _⟩ := plan_eq k1 hW (by omega) k2 k3 (w := w) (by omega) U0 hB0
      rw [hN] at p7
      refine ⟨hC.congr (by omega) hJ (fun x h1 h2 => ⟨c2 x (by omega), c3 x (by omega), by rw [c4]⟩), c1, fun i hi => ?_⟩
      show ri (coM (lrM (csM m n w) w n) (ic w) n).1 258 i = ic 0
      rw [coM_o (lrM_JP k2) n (by decide) (by decide)]
      exact p7 i hi
  have hb : ∀ w, w < 3 → kOK (lrM (csM m n w) w n) w n ∧ (lrS (csM m n w) w n).1 5 = (lbR (lrM (csM m n w) w n) w n).2 := fun w hw => by
    obtain ⟨k1, k2, k3⟩ := key w (by omega)
    obtain ⟨bs, LT, p1, p2, p3, p4, p5, p6, p7, ⟨R, p8, p9, p10⟩, p11, p12⟩ := plan_eq k1 hW (by omega) k2 k3 hw U0 hB0
    rw [hN] at p1 p2 p3 p4 p5 p6 p7 p8 p10 p11 p12
    have c1 : CL (lrM (csM m n w) w n) 1 (ri m 293) := k1.congr (by omega) (by
      have := csM_o hP (n := n) w
      exact hJ.congr (this.2.2.1 2 (by decide))) (fun x h1 h2 => ⟨lrM_o k2 (by omega), by rw [lrM_p.1], by rw [lrM_p.2.1]⟩)
    obtain ⟨bs', LT', q1, q2, q3, q4, q5, q6, q7, ⟨R', q8, q9, q10⟩, q11, q12⟩ := plan_eq c1 hW (by omega) (lrM_JP k2) p7 hw U0 hB0
    rw [hN] at q1 q2 q3 q4 q5 q6 q7 q8 q10 q11 q12
    refine ⟨q11, ?_⟩
    rw [p5, q12]
    rw [← q2] at q8
    rw [← p2] at p8
    have : R = R' := Option.some.inj (p8.symm.trans q8)
    rw [← p9, ← q9, this]
  obtain ⟨e, he, work, late, w1, w2, w3, w4, w5⟩ := hW.ern (by omega)
  have hcl := c_isConsistent (n0 := n0) (S0 := S0) (G := G) (N := N) (z := z) (d := 24) hJ hP hn h12 (fun w hw => (hb w hw).1) (fun w hw => (hb w hw).2) (fun w hw => by
    have fp := (hC.2.2.2.1 w hw).2
    obtain ⟨_, _, _, P, hP1, hP2⟩ := hW.bar hw
    dsimp only at hP1
    have g : ∀ i, i < 4 → ri m (3 + (15 + 2 * w) + 1) i = ic (P i) := fun i hi => (fp i hi).trans (hP1 i hi)
    rw [g 0 (by decide), g 1 (by decide), g 2 (by decide), g 3 (by decide), ic_add, ic_add, ic_add, ic_add, ic_lt (by omega) (by omega)]
    omega) (fun w hw => by
    have e := hC.asg (w := ic w)
    rw [hN] at e
    have e2 : cntF (fun i => ri m (rp m 2 i) 7 = ic w) n = _ := e
    rw [e2]
    obtain ⟨n2, nx2, late2, work2, ⟨b1, b2, b3, b4, b5, b6, b7, b8, b9⟩, _, _, _, _, aJ⟩ := hW
    have := aJ.2.2 w hw
    rw [nO_of b5 b1] at hN
    subst hN
    rw [ic_add]
    exact this) (by
    have f0 : ri m 18 3 = ri m 293 21 := (hC.2.2.2.1 0 (by decide)).1 3 (by decide)
    have f1 : ri m 20 3 = ri m 293 29 := (hC.2.2.2.1 1 (by decide)).1 3 (by decide)
    have f2 : ri m 22 3 = ri m 293 37 := (hC.2.2.2.1 2 (by decide)).1 3 (by decide)
    have ht := tot3 (he 0 (by decide)) (he 1 (by decide)) (he 2 (by decide))
    have ht2 := hrs w1 w2
    rw [f0, f1, f2, hC.1.2.2.2.2, hC.1.2.2.2.1, w3, w4]
    exact Int64.toInt_inj.mp (by
      refine ht.1.trans ?_
      rw [ht2.1]
      exact w5))
  obtain ⟨c1, c2, c3, c4, c5⟩ := csM_o hP (n := n) 3
  refine ⟨csM m n 3, _, hcl, m_isConsistent (d := 39), Inv_plan hI (fun x hx g1 g2 g3 => ?_) (fun i g1 g2 g3 => ?_) (fun x hx => ?_) ?_ (fun x hx => ?_) ⟨fun i hi => ?_, U0, ?_⟩ (Nat.le_refl _) (by omega) (by omega)⟩
  · rw [ri_wn _ _ _ g1]
    exact c2 x hx
  · rw [ri_ws, upd_n _ _ g1, c2 292 (by decide)]
  · rw [rp_wi]
    exact c3 x hx
  · exact c1
  · rw [rl_wi, c4]
  · rw [ri_wn _ _ _ (by decide)]
    exact (key 3 (by decide)).2.2 i hi
  · rw [ri_wn _ _ _ (by decide), c2 297 (by decide)]
    exact hU
end P18
