/-! the eleven changes: class against reference; written by wip/whole/gen_p15.py, expanded by px.py -/
def nxN (nx : Nat) : Nat := if nx + 1 < 9 then nx + 1 else 0
def cnN (cnt : Nat) : Nat := if cnt < 8 then cnt + 1 else 8
section P15
variable {m m2 mq : mm} {T T2 L nx cnt : Nat} {r r2 : Nat → Int32}
theorem cfM_47 (h1 : ri m 47 1 = ic nx) (h2 : ri m 47 2 = ic cnt) (hn : nx < 9) (hc : cnt ≤ 8) : ri (cfM m) 47 1 = ic (nxN nx) ∧ ri (cfM m) 47 2 = ic (cnN cnt) ∧ (∀ x, x ≠ 47 → ri (cfM m) x = ri m x) ∧ rp (cfM m) = rp m ∧ rl (cfM m) = rl m ∧ rd (cfM m) = rd m := by
  refine ⟨?_, ?_, fun x hx => ?_, rfl, rfl, rfl⟩
  · unfold cfM nxN
    rw [ri_ws, upd_n _ _ (by decide), ri_ws, upd_s, h1, ic_add]
    by_cases h : nx + 1 < 9
    · rw [if_pos (by rw [ic_lt (by omega) (by omega)]; exact h), if_pos h]
    · rw [if_neg (by rw [ic_lt (by omega) (by omega)]; exact h), if_neg h]
  · unfold cfM cnN mN
    rw [ri_ws, upd_s, h2, ic_add]
    by_cases h : cnt < 8
    · rw [if_neg (by rw [ic_lt (by omega) (by omega)]; omega), if_pos h]
    · rw [if_pos (by rw [ic_lt (by omega) (by omega)]; omega), if_neg h]
  · unfold cfM
    rw [ri_wn _ _ _ hx, ri_wn _ _ _ hx]
theorem cmM_all (h8 : cnt ≤ 8) : ri (cmM mq cnt) 292 7 = ic (cnN cnt) ∧ (∀ i, i ≠ 7 → ri (cmM mq cnt) 292 i = ri mq 292 i) ∧ (∀ x, x ≠ 292 → x ≠ 296 → ri (cmM mq cnt) x = ri mq x) ∧ (rp (cmM mq cnt) = rp mq ∧ rl (cmM mq cnt) = rl mq ∧ rd (cmM mq cnt) = rd mq) ∧ (cnt < 8 → (∀ i, i < cnt → ∀ x, x < 140 → hr (cmM mq cnt) i x = hr mq i x) ∧ ∀ x, x < 140 → hr (cmM mq cnt) cnt x = ri mq 294 x) ∧ (cnt = 8 → (∀ i, i < 7 → ∀ x, x < 140 → hr (cmM mq cnt) i x = hr mq (i + 1) x) ∧ ∀ x, x < 140 → hr (cmM mq cnt) 7 x = ri mq 294 x) := by
  by_cases h : cnt = 8
  · subst h
    have e : cmM mq 8 = wi (wa (wi (wa mq 296 (shK 7 (ri mq 296))) 292 7 (ic 7)) 296 (cpR 140 0 980 (ri mq 294) (shK 7 (ri mq 296)))) 292 7 (ic 8) := if_pos rfl
    rw [e]
    have e2 : ∀ i x, hr (wi (wa (wi (wa mq 296 (shK 7 (ri mq 296))) 292 7 (ic 7)) 296 (cpR 140 0 980 (ri mq 294) (shK 7 (ri mq 296)))) 292 7 (ic 8)) i x = cpR 140 0 980 (ri mq 294) (shK 7 (ri mq 296)) (140 * i + x) := fun i x => by
      unfold hr
      rw [ri_wn _ _ _ (by decide), ri_as]
    refine ⟨by rw [ri_ws, upd_s]; rfl, fun i hi => by rw [ri_ws, upd_n _ _ hi, ri_an _ _ (by decide), ri_ws, upd_n _ _ hi, ri_an _ _ (by decide)], fun x h1 h2 => by rw [ri_wn _ _ _ h1, ri_an _ _ h2, ri_wn _ _ _ h1, ri_an _ _ h2], ⟨rfl, rfl, rfl⟩, fun z => absurd z (by decide), fun _ => ⟨fun i hi x hx => ?_, fun x hx => ?_⟩⟩
    · rw [e2]
      unfold cpR shK hr
      rw [if_neg (by omega), if_pos (by omega), show 140 * i + x + 140 = 140 * (i + 1) + x by omega]
    · rw [e2]
      unfold cpR
      rw [if_pos (by omega), show 0 + (140 * 7 + x - 980) = x by omega]
  · have e : cmM mq cnt = wi (wa mq 296 (cpR 140 0 (140 * cnt) (ri mq 294) (ri mq 296))) 292 7 (ic (cnt + 1)) := if_neg h
    rw [e]
    have e2 : ∀ i x, hr (wi (wa mq 296 (cpR 140 0 (140 * cnt) (ri mq 294) (ri mq 296))) 292 7 (ic (cnt + 1))) i x = cpR 140 0 (140 * cnt) (ri mq 294) (ri mq 296) (140 * i + x) := fun i x => by
      unfold hr
      rw [ri_wn _ _ _ (by decide), ri_as]
    refine ⟨by rw [ri_ws, upd_s]; unfold cnN; rw [if_pos (by omega)], fun i hi => by rw [ri_ws, upd_n _ _ hi, ri_an _ _ (by decide)], fun x h1 h2 => by rw [ri_wn _ _ _ h1, ri_an _ _ h2], ⟨rfl, rfl, rfl⟩, fun _ => ⟨fun i hi x hx => ?_, fun x hx => ?_⟩, fun z => absurd z h⟩
    · rw [e2]
      unfold cpR hr
      rw [if_neg (by omega)]
    · rw [e2]
      unfold cpR
      rw [if_pos (by omega), show 0 + (140 * cnt + x - 140 * cnt) = x by omega]
/-- the history, one state longer -/
theorem HI.push (h : HI T m nx cnt) (hT : T ≤ T2) (hJ : ∀ q, q < 9 → JV m (49 + 23 * q)) (hr1 : RW T r) (hr2 : CL m2 (49 + 23 * nx) r) (hrows : ∀ x, 49 ≤ x → x < 256 → (x < 49 + 23 * nx ∨ 49 + 23 * nx + 23 ≤ x) → ri m2 x = ri m x ∧ rp m2 x = rp m x ∧ rl m2 x = rl m x) (h1 : ri m2 47 1 = ic (nxN nx)) (h2 : ri m2 47 2 = ic (cnN cnt)) (h3 : ri m2 292 7 = ic (cnN cnt)) (ha : cnt < 8 → (∀ i, i < cnt → ∀ x, x < 140 → hr m2 i x = hr m i x) ∧ ∀ x, x < 140 → hr m2 cnt x = r x) (hb : cnt = 8 → (∀ i, i < 7 → ∀ x, x < 140 → hr m2 i x = hr m (i + 1) x) ∧ ∀ x, x < 140 → hr m2 7 x = r x) : HI T2 m2 (nxN nx) (cnN cnt) := by
  obtain ⟨g1, g2, g3, g4, g5, g6⟩ := h
  have hold : ∀ i, i < cnt → CL m2 (49 + 23 * hx nx cnt i) (hr m i) := fun i hi => by
    have hlt := hx_lt nx cnt i
    have hne := hx_ne g1 g2 hi
    exact (g6 i hi).2.congr (g6 i hi).1.n12 (hJ _ hlt) (fun q q1 q2 => hrows q (by omega) (by omega) (by omega))
  refine ⟨by unfold nxN; split <;> omega, by unfold cnN; split <;> omega, h1, h2, h3, fun i hi => ?_⟩
  by_cases h8 : cnt < 8
  · obtain ⟨a1, a2⟩ := ha h8
    have ec : cnN cnt = cnt + 1 := if_pos h8
    rw [ec] at hi ⊢
    by_cases e : i = cnt
    · subst e
      have ei : hx (nxN nx) (i + 1) i = nx := by unfold hx nxN; split <;> omega
      rw [ei]
      exact ⟨(RW_congr a2 hr1).mono hT, hr2.row hr1.n12 a2⟩
    · have ei : hx (nxN nx) (cnt + 1) i = hx nx cnt i := by unfold hx nxN; split <;> omega
      rw [ei]
      have := a1 i (by omega)
      exact ⟨(RW_congr this (g6 i (by omega)).1).mono hT, (hold i (by omega)).row (g6 i (by omega)).1.n12 this⟩
  · have e8 : cnt = 8 := by omega
    subst e8
    obtain ⟨a1, a2⟩ := hb rfl
    have ec : cnN 8 = 8 := rfl
    rw [ec] at hi ⊢
    by_cases e : i = 7
    · subst e
      have ei : hx (nxN nx) 8 7 = nx := by unfold hx nxN; split <;> omega
      rw [ei]
      exact ⟨(RW_congr a2 hr1).mono hT, hr2.row hr1.n12 a2⟩
    · have ei : hx (nxN nx) 8 i = hx nx 8 (i + 1) := by unfold hx nxN; split <;> omega
      rw [ei]
      have := a1 i (by omega)
      exact ⟨(RW_congr this (g6 (i + 1) (by omega)).1).mono hT, (hold (i + 1) (by omega)).row (g6 (i + 1) (by omega)).1.n12 this⟩
/-- a change made, by both -/
theorem Core.done {m3 mF : mm} {L2 : Nat} (h : Core T L nx cnt m) (hT : T ≤ T2) (hE : eqS 1 24 (cpM m (49 + 23 * nx) 1) m2) (hC2 : CL m2 1 r2) (hJ2 : JV m2 1) (hR2 : RW T2 r2)
    (hri : ∀ x, x < 256 → x ≠ 47 → ri mF x = ri m2 x) (hrp : ∀ x, x < 256 ∨ x = 257 → rp mF x = rp m2 x) (hrl : ∀ x, x < 256 → rl mF x = rl m2 x) (h47 : ri mF 47 1 = ic (nxN nx) ∧ ri mF 47 2 = ic (cnN cnt)) (h293 : ri mF 293 = r2) (hp6 : PI6 mF) (h295 : ri mF 295 = ri m 295) (h292 : ∀ i, i = 8 ∨ i = 9 ∨ i = 12 → ri mF 292 i = ri m 292 i) (h7 : ri mF 292 7 = ic (cnN cnt)) (hx4 : XI mF L2)
    (ha : cnt < 8 → (∀ i, i < cnt → ∀ x, x < 140 → hr mF i x = hr m i x) ∧ ∀ x, x < 140 → hr mF cnt x = ri m 293 x) (hb : cnt = 8 → (∀ i, i < 7 → ∀ x, x < 140 → hr mF i x = hr m (i + 1) x) ∧ ∀ x, x < 140 → hr mF 7 x = ri m 293 x) : Core T2 L2 (nxN nx) (cnN cnt) mF := by
  have hP := h.prep
  obtain ⟨c1, c2, c3, c4, c5, c6, c7, c8⟩ := h
  obtain ⟨p1, p2, p3, p4, p5, p6, p7, p8⟩ := hP
  have hnx := c7.1
  have hO := cpM_out (c := 1) (c1.2.2.1 nx hnx)
  have e2 : ∀ x, 24 ≤ x → x < 256 → x ≠ 47 → ri mF x = ri (cpM m (49 + 23 * nx) 1) x ∧ rp mF x = rp (cpM m (49 + 23 * nx) 1) x ∧ rl mF x = rl (cpM m (49 + 23 * nx) 1) x := fun x h1 h2 h3 => by
    have := hE x (by omega)
    exact ⟨(hri x h2 h3).trans this.1, (hrp x (Or.inl h2)).trans this.2.1, (hrl x h2).trans this.2.2.1⟩
  have e0 : ri mF 0 = ri m 0 := by rw [hri 0 (by omega) (by omega), (hE 0 (by omega)).1, (hO 0 (by omega)).1]
  refine ⟨⟨hJ2.congr (hrp 2 (by omega)), p1.2.1.congr (e2 25 (by omega) (by omega) (by omega)).2.1, fun q hq => (p1.2.2.1 q hq).congr (e2 (49 + 23 * q + 1) (by omega) (by omega) (by omega)).2.1, ?_⟩, hp6, ?_, ?_, ⟨by rw [h293]; exact hR2, ?_⟩, ?_, ?_, hx4⟩
  · have := c1.2.2.2
    unfold JP at this ⊢
    rw [hrp 257 (Or.inr rfl), (hE 257 (by omega)).2.1, (hO 257 (by omega)).2.1]
    exact this
  · rw [e0, h292 8 (by omega)]
    exact c3
  · rw [e0, h292 9 (by omega)]
    exact c4
  · rw [h293]
    exact hC2.congr hR2.n12 hJ2 (fun q h1 h2 => ⟨hri q (by omega) (by omega), hrp q (by omega), hrl q (by omega)⟩)
  · refine p6.congr hT p1.2.1 ?_ ?_ ?_ (fun x h1 h2 => e2 x h1 (by omega) (by omega))
    · rw [e0, (hO 0 (by omega)).1]
    · rw [h292 12 (by omega), (hO 292 (by omega)).1]
    · rw [h295, (hO 295 (by omega)).1]
  · refine c7.push hT c1.2.2.1 c5.1 ?_ ?_ h47.1 h47.2 h7 ha hb
    · have := cpM_CL (c1.2.2.1 nx hnx) c5.2 c5.1.n12
      exact this.congr c5.1.n12 (p1.2.2.1 nx hnx) (fun q h1 h2 => e2 q (by omega) (by omega) (by omega))
    · intro x h1 h2 h3
      have := e2 x (by omega) h2 (by omega)
      have g := hO x (by omega)
      exact ⟨this.1.trans g.1, this.2.1.trans g.2.1, this.2.2.trans g.2.2.1⟩
theorem bg_all : (∀ x, x ≠ 292 → x ≠ 294 → ri (bgM m) x = ri m x) ∧ (∀ i, i ≠ 6 → ri (bgM m) 292 i = ri m 292 i) ∧ ri (bgM m) 292 6 = ic 0 ∧ (∀ x, x < 140 → ri (bgM m) 294 x = ri m 293 x) ∧ rp (bgM m) = rp m ∧ rl (bgM m) = rl m ∧ rd (bgM m) = rd m := by
  unfold bgM
  refine ⟨fun x h1 h2 => by rw [ri_an _ _ h2, ri_wn _ _ _ h1], fun i hi => by rw [ri_an _ _ (by decide), ri_ws, upd_n _ _ hi], by rw [ri_an _ _ (by decide), ri_ws, upd_s], fun x hx => ?_, rfl, rfl, rfl⟩
  rw [ri_as]
  unfold cpR
  rw [if_pos (by omega), show 0 + (x - 0) = x by omega]
end P15
def xn (e : Nat) : String := if e = 1 then "java/lang/IllegalArgumentException" else if e = 2 then "java/lang/IllegalStateException" else if e = 3 then "java/lang/IndexOutOfBoundsException" else if e = 4 then "java/util/NoSuchElementException" else if e = 5 then "java/lang/UnsupportedOperationException" else "java/lang/ArithmeticException"
/-- a call of the class that may throw, and the reference's -/
def Pr (n0 : Nat) (S0 : Nat → Value) (N0 z0 q : Nat) (cv : Int32 → Int64) (cm : Nat) (cas : List Value) (rf : Nat) (ras : List Value) (ec : Nat × (Nat → Nat)) (G : sH) (m : mm) (N z : Nat) : Prop :=
  (∃ why m1 m2 b, 0 < why ∧ why ≤ ec.1 ∧ (Mt (n0, S0) 40 cm (.ref n0 :: cas) (hp n0 G m, N, z) = some (.inr (xn (ec.2 why)), (hp n0 G m1, N + 1, z + 6))) ∧ (Mt (n0, S0) 41 rf (.ref (n0 + 292) :: ras) (hp n0 G m1, N + 1, z + 6) = oI n0 G m2 (N + 1) (z + 6) b) ∧ ri m2 292 6 = ic why ∧ Inv n0 N0 z0 (q + 1) G m2 (N + 1) (z + 6)) ∨
  ∃ G1 m1 N1 z1 v m2, (Mt (n0, S0) 40 cm (.ref n0 :: cas) (hp n0 G m, N, z) = oI n0 G1 m1 N1 z1 v) ∧ (∀ x, x < n0 → G1 x = G x) ∧ (Mt (n0, S0) 41 rf (.ref (n0 + 292) :: ras) (hp n0 G1 (wl m1 303 0 (cv v)), N1, z1) = oI n0 G1 m2 N1 z1 v) ∧ ri m2 292 6 = ic 0 ∧ rl m2 303 0 = cv v ∧ Inv n0 N0 z0 (q + 1) G1 m2 N1 z1
section P15b
variable {n0 N z N0 z0 q T T2 L nx cnt : Nat} {S0 : Nat → Value} {G : sH} {m m2 : mm} {r r2 : Nat → Int32}
theorem stl_no {e : Nat} (h1 : 1 ≤ e) (h5 : e ≤ 5) : stl n0 G m N z (-ic e) = (.inr (xn e), (hp n0 G m, N + 1, z + 6)) := by
  rcases (by omega : e = 1 ∨ e = 2 ∨ e = 3 ∨ e = 4 ∨ e = 5) with rfl | rfl | rfl | rfl | rfl
  · exact if_pos rfl
  · unfold stl
    rw [if_neg (by decide), if_pos rfl]
    rfl
  · unfold stl
    rw [if_neg (by decide), if_neg (by decide), if_pos rfl]
    rfl
  · unfold stl
    rw [if_neg (by decide), if_neg (by decide), if_neg (by decide), if_pos rfl]
    rfl
  · unfold stl
    rw [if_neg (by decide), if_neg (by decide), if_neg (by decide), if_neg (by decide), if_pos rfl]
    rfl
theorem nneg {v : Int32} {B e : Nat} (h : isN v B) (hB : B < 2147483648) (he : 1 ≤ e) (he2 : e ≤ 5) : ¬ v = -ic e := fun g => by
  obtain ⟨x, h1, rfl⟩ := h
  have h2 : (-ic e : Int32) < -ic 0 := by
    rw [ngl (by omega) (by omega)]
    omega
  rw [← g, show (-ic 0 : Int32) = ic 0 from by decide, ic_lt (by omega) (by omega)] at h2
  omega
theorem stl_ok {v : Int32} {B : Nat} (h : isN v B) (hB : B < 2147483648) : stl n0 G m N z v = (.inl (some (.int v)), (hp n0 G (cfM m), N, z)) := by
  unfold stl
  rw [if_neg (nneg h hB (by decide) (by decide)), if_neg (nneg h hB (by decide) (by decide)), if_neg (nneg h hB (by decide) (by decide)), if_neg (nneg h hB (by decide) (by decide)), if_neg (nneg h hB (by decide) (by decide))]
theorem Inv_up {N2 z2 : Nat} {mF : mm} (hO : ∃ k c f, OI n0 G m N k c f ∧ N ≤ N0 + q + k ∧ z ≤ z0 + 6 * q + zcap k) (hC : ∃ T L nx cnt, T + L ≤ q + 1 ∧ Core T L nx cnt mF) (h1 : ri mF 290 = ri m 290) (h2 : rp mF 290 = rp m 290) (h3 : ri mF 292 14 = ri m 292 14) (h4 : ri mF 299 = ri m 299) (hN : N ≤ N2) (hN2 : N2 ≤ N + 1) (hz : z2 ≤ z + 6) : Inv n0 N0 z0 (q + 1) G mF N2 z2 := by
  obtain ⟨k, c, f, o1, o2, o3⟩ := hO
  exact ⟨hC, k, c, f, o1.congr hN h1 h2 h3 h4, by omega, by omega⟩
/-- refused by both -/
theorem fin_no {cm rf : Nat} {cas ras : List Value} {ec : Nat × (Nat → Nat)} {why : Nat} {ret : Int32} (hI : Inv n0 N0 z0 q G m N z) (hTL : T + L ≤ q) (hc : Core T L nx cnt m) (hw : 0 < why) (hw5 : why ≤ ec.1) (hret : ret = -ic (ec.2 why)) (hec : 1 ≤ ec.2 why ∧ ec.2 why ≤ 5) (hcl : ∀ d, Mt (n0, S0) (d + 14) cm (.ref n0 :: cas) (hp n0 G m, N, z) = some (stl n0 G (cpM m (49 + 23 * nx) 1) N z ret)) (href : ∀ d N z, Mt (n0, S0) (d + 14) rf (.ref (n0 + 292) :: ras) (hp n0 G (cpM m (49 + 23 * nx) 1), N, z) = oI n0 G (wi (bgM (cpM m (49 + 23 * nx) 1)) 292 6 (ic why)) N z (ic 0)) : Pr n0 S0 N0 z0 q Int32.toInt64 cm cas rf ras ec G m N z := by
  subst hret
  have hnx := hc.2.2.2.2.2.2.1.1
  have hO := cpM_out (c := 1) (hc.1.2.2.1 nx hc.2.2.2.2.2.2.1.1)
  have hP := hc.prep
  obtain ⟨b1, b2, b3, b4, b5, b6, b7⟩ := bg_all (m := cpM m (49 + 23 * nx) 1)
  refine Or.inl ⟨why, _, _, _, hw, hw5, by rw [show (40 : Nat) = 26 + 14 from rfl, hcl 26, stl_no hec.1 hec.2], href 27 _ _, by rw [ri_ws, upd_s], Inv_up hI.2 ⟨T, L, nx, cnt, by omega, ?_⟩ ?_ ?_ ?_ ?_ (by omega) (by omega) (by omega)⟩
  · refine hP.congr (Nat.le_refl _) ?_ ?_ (fun x hx => by rw [ri_wn _ _ _ (by omega), b1 x (by omega) (by omega)]) (fun x _ => ⟨by rw [rp_wi, b5], by rw [rl_wi, b6]⟩) (fun i hi => by rw [ri_ws, upd_n _ _ (by omega), b2 i (by omega)])
    · unfold PI6
      rw [ri_wn _ _ _ (by decide), ri_wn _ _ _ (by decide), b1 258 (by decide) (by decide), b1 297 (by decide) (by decide)]
      exact hP.2.1
    · have := hP.1.2.2.2
      unfold JP at this ⊢
      rw [rp_wi, b5]
      exact this
  · rw [ri_wn _ _ _ (by decide), b1 _ (by decide) (by decide), (hO 290 (by omega)).1]
  · rw [rp_wi, b5, (hO 290 (by omega)).2.1]
  · rw [ri_ws, upd_n _ _ (by decide), b2 _ (by decide), (hO 292 (by omega)).1]
  · rw [ri_wn _ _ _ (by decide), b1 _ (by decide) (by decide), (hO 299 (by omega)).1]
/-- done by both -/
theorem fin_ok {cm rf : Nat} {cas ras : List Value} {ec : Nat × (Nat → Nat)} {v ret : Int32} {B : Nat} (hI : Inv n0 N0 z0 q G m N z) (hTL : T + L ≤ q) (hc : Core T L nx cnt m) (hret : ret = v) (hB : isN v B) (hB2 : B < 2147483648) (hE : eqS 1 24 (cpM m (49 + 23 * nx) 1) m2) (hC2 : CL m2 1 r2) (hJ2 : JV m2 1) (hR2 : RW (T + 1) r2) (hcl : ∀ d, Mt (n0, S0) (d + 14) cm (.ref n0 :: cas) (hp n0 G m, N, z) = some (stl n0 G m2 N z ret)) (href : ∀ (m3 : mm) d, ri m3 293 = ri m 293 → ri m3 292 7 = ic cnt → Mt (n0, S0) (d + 14) rf (.ref (n0 + 292) :: ras) (hp n0 G m3, N, z) = oI n0 G (cmM (wa (bgM m3) 293 r2) cnt) N z v) : Pr n0 S0 N0 z0 q Int32.toInt64 cm cas rf ras ec G m N z := by
  subst hret
  have hO := cpM_out (c := 1) (hc.1.2.2.1 nx hc.2.2.2.2.2.2.1.1)
  obtain ⟨c7a, c7b, c7c, c7d, c7e, _⟩ := hc.2.2.2.2.2.2.1
  have e47 : ri m2 47 = ri m 47 := by rw [(hE 47 (by omega)).1, (hO 47 (by omega)).1]
  obtain ⟨f1, f2, f3, f4, f5, f6⟩ := cfM_47 (m := m2) (by rw [e47]; exact c7c) (by rw [e47]; exact c7d) c7a c7b
  have e : ∀ x, 256 ≤ x → ri (cfM m2) x = ri m x ∧ rp (cfM m2) x = rp m x ∧ rl (cfM m2) x = rl m x := fun x hx => by
    have g := hE x (by omega)
    have g2 := hO x (by omega)
    exact ⟨by rw [f3 x (by omega), g.1, g2.1], by rw [f4, g.2.1, g2.2.1], by rw [f5, g.2.2.1, g2.2.2.1]⟩
  obtain ⟨b1, b2, b3, b4, b5, b6, b7⟩ := bg_all (m := wl (cfM m2) 303 0 ret.toInt64)
  obtain ⟨k1, k2, k3, k4, k5, k6⟩ := cmM_all (mq := wa (bgM (wl (cfM m2) 303 0 ret.toInt64)) 293 r2) c7b
  have hq : ∀ x, x ≠ 292 → x ≠ 293 → x ≠ 294 → x ≠ 296 → ri (cmM (wa (bgM (wl (cfM m2) 303 0 ret.toInt64)) 293 r2) cnt) x = ri (cfM m2) x := fun x h1 h2 h3 h4 => by
    rw [k3 x h1 h4, ri_an _ _ h2, b1 x h1 h3]
    rfl
  have hq2 : ∀ i, i ≠ 6 → i ≠ 7 → ri (cmM (wa (bgM (wl (cfM m2) 303 0 ret.toInt64)) 293 r2) cnt) 292 i = ri m 292 i := fun i h1 h2 => by
    rw [k2 i h2, ri_an _ _ (by decide), b2 i h1]
    show ri (cfM m2) 292 i = _
    rw [(e 292 (by omega)).1]
  have hq3 : ∀ x, rp (cmM (wa (bgM (wl (cfM m2) 303 0 ret.toInt64)) 293 r2) cnt) x = rp m2 x := fun x => by
    rw [k4.1, rp_wa, b5]
    show rp (cfM m2) x = _
    rw [f4]
  have hq4 : ∀ x, x < 256 → rl (cmM (wa (bgM (wl (cfM m2) 303 0 ret.toInt64)) 293 r2) cnt) x = rl m2 x := fun x hx => by
    rw [k4.2.1, rl_wa, b6]
    funext j
    rw [rl_wl, if_neg (by omega), f5]
  have hrow : ri (wa (bgM (wl (cfM m2) 303 0 ret.toInt64)) 293 r2) 296 = ri m 296 := by
    rw [ri_an _ _ (by decide), b1 296 (by decide) (by decide)]
    exact (e 296 (by omega)).1
  have hrow2 : ∀ x, x < 140 → ri (wa (bgM (wl (cfM m2) 303 0 ret.toInt64)) 293 r2) 294 x = ri m 293 x := fun x hx => by
    rw [ri_an _ _ (by decide), b4 x hx]
    show ri (cfM m2) 293 x = _
    rw [(e 293 (by omega)).1]
  have hh : ∀ i, hr (wa (bgM (wl (cfM m2) 303 0 ret.toInt64)) 293 r2) i = hr m i := fun i => by unfold hr; rw [hrow]
  refine Or.inr ⟨G, cfM m2, N, z, ret, _, by rw [show (40 : Nat) = 26 + 14 from rfl, hcl 26, stl_ok hB hB2], fun _ _ => rfl, href (wl (cfM m2) 303 0 ret.toInt64) 27 (e 293 (by omega)).1 (by show ri (cfM m2) 292 7 = _; rw [(e 292 (by omega)).1]; exact c7e), ?_, ?_, Inv_up hI.2 ⟨T + 1, L, nxN nx, cnN cnt, by omega, ?_⟩ ?_ ?_ ?_ ?_ (Nat.le_refl _) (by omega) (by omega)⟩
  · rw [k2 6 (by decide), ri_an _ _ (by decide), b3]
  · rw [k4.2.1, rl_wa, b6, rl_wl, if_pos ⟨rfl, rfl⟩]
  · refine hc.done (m3 := m) (by omega) hE hC2 hJ2 hR2 (fun x h1 h2 => ?_) (fun x _ => hq3 x) hq4 ?_ ?_ ?_ ?_ ?_ k1 ?_ (fun h => ?_) (fun h => ?_)
    · rw [hq x (by omega) (by omega) (by omega) (by omega), f3 x h2]
    · rw [hq 47 (by omega) (by omega) (by omega) (by omega)]
      exact ⟨f1, f2⟩
    · rw [k3 293 (by decide) (by decide), ri_as]
    · unfold PI6
      rw [hq 258 (by decide) (by decide) (by decide) (by decide), hq 297 (by decide) (by decide) (by decide) (by decide), (e 258 (by decide)).1, (e 297 (by decide)).1]
      exact hc.2.1
    · rw [hq 295 (by decide) (by decide) (by decide) (by decide), (e 295 (by decide)).1]
    · exact fun i hi => hq2 i (by omega) (by omega)
    · refine hc.2.2.2.2.2.2.2.congr ?_ (hq2 18 (by decide) (by decide)) ?_ ?_
      · rw [hq 269 (by decide) (by decide) (by decide) (by decide), (e 269 (by decide)).1]
      · rw [hq 270 (by decide) (by decide) (by decide) (by decide), (e 270 (by decide)).1]
      · rw [hq 300 (by decide) (by decide) (by decide) (by decide), (e 300 (by decide)).1]
    · have := k5 h
      exact ⟨fun i hi x hx => by rw [this.1 i hi x hx, hh], fun x hx => by rw [this.2 x hx, hrow2 x hx]⟩
    · have := k6 h
      exact ⟨fun i hi x hx => by rw [this.1 i hi x hx, hh], fun x hx => by rw [this.2 x hx, hrow2 x hx]⟩
  · rw [hq 290 (by decide) (by decide) (by decide) (by decide), (e 290 (by decide)).1]
  · rw [hq3, ← f4, (e 290 (by decide)).2.1]
  · exact hq2 14 (by decide) (by decide)
  · rw [hq 299 (by decide) (by decide) (by decide) (by decide), (e 299 (by decide)).1]
theorem P_addJob (hI : Inv n0 N0 z0 q G m N z) (hq : q ≤ 512) {x y k t w u : Int32} : Pr n0 S0 N0 z0 q Int32.toInt64 73 [.int x, .int y, .int k, .int t, .int w, .int u] 129 [.int x, .int y, .int k, .int t, .int w, .int u] (2, eAdd) G m N z := by
  obtain ⟨⟨T, L, nx, cnt, hTL, hc⟩, _⟩ := id hI
  have hP := hc.prep
  have h7 := hc.2.2.2.2.2.2.1
  have hnx := h7.1
  have h8c := h7.2.1
  have hO := cpM_out (c := 1) (hc.1.2.2.1 nx h7.1)
  have hr : ri (cpM m (49 + 23 * nx) 1) 293 = ri m 293 := (hO 293 (by omega)).1
  have hR := hP.2.2.2.2.1
  unfold NI at hR
  rw [hr] at hR
  generalize hre : ri m 293 = r at hr hR
  obtain ⟨m2, ret, hop, hor⟩ := k_add (n0 := n0) (S0 := S0) (G := G) hR.2 hR.1 hP.1.1 (x := x) (y := y) (k := k) (t := t) (w := w) (u := u)
  have hcl : ∀ d, Mt (n0, S0) (d + 14) 73 (.ref n0 :: [.int x, .int y, .int k, .int t, .int w, .int u]) (hp n0 G m, N, z) = some (stl n0 G m2 N z ret) := fun d => c_addJob (d := d + 10) h7.1 h7.2.2.1 (hc.1.2.2.1 nx h7.1) hc.1.1 hop
  rcases hor with ⟨hw, hret, hm⟩ | ⟨hw, hret, g1, g2, g3⟩
  · subst hm
    have hb : wAdd r x y k t w u ≤ 2 ∧ 1 ≤ eAdd (wAdd r x y k t w u) ∧ eAdd (wAdd r x y k t w u) ≤ 5 := by
      have h4 : wAdd r x y k t w u ≤ 2 := by
        unfold wAdd
        repeat' split
        all_goals omega
      unfold eAdd
      refine ⟨by omega, ?_, ?_⟩
      · first | omega | (repeat' split) <;> omega
      · first | omega | (repeat' split) <;> omega
    have hq1 := (q_add (n0 := n0) (S0 := S0) (G := G) (m := bgM (cpM m (49 + 23 * nx) 1)) (bg_f.trans hr) hR.1 (x := x) (y := y) (k := k) (t := t) (w := w) (u := u)).1
    exact fin_no hI hTL hc hw hb.1 hret hb.2 hcl (fun d N z => m_addJobNo (d := d + 9) hq1 (by rw [ic_lt (by omega) (by omega)]; exact hw))
  · have hg := g_add hR.1 (by omega) hw
    refine fin_ok hI hTL hc hret hg.2 (by omega) g3 g1 g2 hg.1 hcl (fun m3 d h293 h7c => ?_)
    rw [hre] at h293
    have hb3 : ri (bgM m3) 293 = r := bg_f.trans h293
    have hbc : ri (wa (bgM m3) 293 (nAdd r x y k t w u)) 292 7 = ic cnt := by rw [ri_an _ _ (by decide), bg_all.2.1 7 (by decide)]; exact h7c
    have hq1 := q_add (n0 := n0) (S0 := S0) (G := G) (m := bgM m3) hb3 hR.1 (x := x) (y := y) (k := k) (t := t) (w := w) (u := u)
    have hq0 := hq1.1
    rw [hw] at hq0
    exact m_addJobOk (d := d + 9) hq0 (hq1.2 hw) hbc h7.2.1
theorem P_cancelJob (hI : Inv n0 N0 z0 q G m N z) (hq : q ≤ 512) {job : Int32} : Pr n0 S0 N0 z0 q Int32.toInt64 79 [.int job] 139 [.int job] (1, eCan) G m N z := by
  obtain ⟨⟨T, L, nx, cnt, hTL, hc⟩, _⟩ := id hI
  have hP := hc.prep
  have h7 := hc.2.2.2.2.2.2.1
  have hnx := h7.1
  have h8c := h7.2.1
  have hO := cpM_out (c := 1) (hc.1.2.2.1 nx h7.1)
  have hr : ri (cpM m (49 + 23 * nx) 1) 293 = ri m 293 := (hO 293 (by omega)).1
  have hR := hP.2.2.2.2.1
  unfold NI at hR
  rw [hr] at hR
  generalize hre : ri m 293 = r at hr hR
  obtain ⟨m2, ret, hop, hor⟩ := k_cancel (n0 := n0) (S0 := S0) (G := G) hR.2 hR.1 hP.1.1 (job := job)
  have hcl : ∀ d, Mt (n0, S0) (d + 14) 79 (.ref n0 :: [.int job]) (hp n0 G m, N, z) = some (stl n0 G m2 N z ret) := fun d => c_cancelJob (d := d + 10) h7.1 h7.2.2.1 (hc.1.2.2.1 nx h7.1) hc.1.1 hop
  rcases hor with ⟨hw, hret, hm⟩ | ⟨hw, hret, g1, g2, g3⟩
  · subst hm
    have hb : wCan r job ≤ 1 ∧ 1 ≤ eCan (wCan r job) ∧ eCan (wCan r job) ≤ 5 := by
      have h4 : wCan r job ≤ 1 := by
        unfold wCan
        repeat' split
        all_goals omega
      unfold eCan
      refine ⟨by omega, ?_, ?_⟩
      · first | omega | (repeat' split) <;> omega
      · first | omega | (repeat' split) <;> omega
    have hn : fO r job = none := by
      unfold wCan at hw
      cases hz : fO r job with
      | none => rfl
      | some a => rw [hz] at hw; exact absurd hw (Nat.lt_irrefl 0)
    obtain ⟨n, h12, h0, hN⟩ := hR.1.n
    have hw1 : wCan r job = 1 := by unfold wCan; rw [hn]
    refine fin_no hI hTL hc hw hb.1 hret hb.2 hcl (fun d N z => ?_)
    rw [hw1]
    exact m_cancelNo (d := d + 9) (by rw [hr]; exact h0) h12 (by rw [hr, ← hN]; exact hn)
  · have hg := g_cancel hR.1 hw
    refine fin_ok hI hTL hc hret hg.2 (by omega) g3 g1 g2 hg.1 hcl (fun m3 d h293 h7c => ?_)
    rw [hre] at h293
    have hb3 : ri (bgM m3) 293 = r := bg_f.trans h293
    have hbc : ri (wa (bgM m3) 293 (nCan r job)) 292 7 = ic cnt := by rw [ri_an _ _ (by decide), bg_all.2.1 7 (by decide)]; exact h7c
    obtain ⟨a, ha1, ha2⟩ := fO_some hw
    obtain ⟨n, h12, h0, hN⟩ := hR.1.n
    have := m_cancelOk (n0 := n0) (S0 := S0) (G := G) (d := d + 9) (N := N) (z := z) (m := m3) (j := job) (a := a) (dp := cnt) (by rw [h293]; exact h0) h12 (by rw [h293, ← hN]; exact ha1) h7c h7.2.1
    unfold nCan
    rw [aO_of ha1, hN]
    rw [h293] at this
    exact this
theorem P_assign (hI : Inv n0 N0 z0 q G m N z) (hq : q ≤ 512) {job w : Int32} : Pr n0 S0 N0 z0 q Int32.toInt64 80 [.int job, .int w] 143 [.int job, .int w] (3, eAsg) G m N z := by
  obtain ⟨⟨T, L, nx, cnt, hTL, hc⟩, _⟩ := id hI
  have hP := hc.prep
  have h7 := hc.2.2.2.2.2.2.1
  have hnx := h7.1
  have h8c := h7.2.1
  have hO := cpM_out (c := 1) (hc.1.2.2.1 nx h7.1)
  have hr : ri (cpM m (49 + 23 * nx) 1) 293 = ri m 293 := (hO 293 (by omega)).1
  have hR := hP.2.2.2.2.1
  unfold NI at hR
  rw [hr] at hR
  generalize hre : ri m 293 = r at hr hR
  obtain ⟨m2, ret, hop, hor⟩ := k_assign (n0 := n0) (S0 := S0) (G := G) hR.2 hR.1 hP.1.1 (job := job) (w := w)
  have hcl : ∀ d, Mt (n0, S0) (d + 14) 80 (.ref n0 :: [.int job, .int w]) (hp n0 G m, N, z) = some (stl n0 G m2 N z ret) := fun d => c_assign (d := d + 10) h7.1 h7.2.2.1 (hc.1.2.2.1 nx h7.1) hc.1.1 hop
  rcases hor with ⟨hw, hret, hm⟩ | ⟨hw, hret, g1, g2, g3⟩
  · subst hm
    have hb : wAsg r job w ≤ 3 ∧ 1 ≤ eAsg (wAsg r job w) ∧ eAsg (wAsg r job w) ≤ 5 := by
      have h4 : wAsg r job w ≤ 3 := by
        unfold wAsg
        repeat' split
        all_goals omega
      unfold eAsg
      refine ⟨by omega, ?_, ?_⟩
      · first | omega | (repeat' split) <;> omega
      · first | omega | (repeat' split) <;> omega
    have hq1 := (q_assign (n0 := n0) (S0 := S0) (G := G) (m := bgM (cpM m (49 + 23 * nx) 1)) (bg_f.trans hr) hR.1 (job := job) (w := w)).1
    exact fin_no hI hTL hc hw hb.1 hret hb.2 hcl (fun d N z => m_assignNo (d := d + 9) hq1 (by rw [ic_lt (by omega) (by omega)]; exact hw))
  · have hg := g_assign hR.1 hw
    refine fin_ok hI hTL hc hret hg.2 (by omega) g3 g1 g2 hg.1 hcl (fun m3 d h293 h7c => ?_)
    rw [hre] at h293
    have hb3 : ri (bgM m3) 293 = r := bg_f.trans h293
    have hbc : ri (wa (bgM m3) 293 (nAsg r job w)) 292 7 = ic cnt := by rw [ri_an _ _ (by decide), bg_all.2.1 7 (by decide)]; exact h7c
    have hq1 := q_assign (n0 := n0) (S0 := S0) (G := G) (m := bgM m3) hb3 hR.1 (job := job) (w := w)
    have hq0 := hq1.1
    rw [hw] at hq0
    exact m_assignOk (d := d + 9) hq0 (hq1.2 hw) hbc h7.2.1
theorem P_unassign (hI : Inv n0 N0 z0 q G m N z) (hq : q ≤ 512) {job : Int32} : Pr n0 S0 N0 z0 q Int32.toInt64 81 [.int job] 148 [.int job] (2, eUna) G m N z := by
  obtain ⟨⟨T, L, nx, cnt, hTL, hc⟩, _⟩ := id hI
  have hP := hc.prep
  have h7 := hc.2.2.2.2.2.2.1
  have hnx := h7.1
  have h8c := h7.2.1
  have hO := cpM_out (c := 1) (hc.1.2.2.1 nx h7.1)
  have hr : ri (cpM m (49 + 23 * nx) 1) 293 = ri m 293 := (hO 293 (by omega)).1
  have hR := hP.2.2.2.2.1
  unfold NI at hR
  rw [hr] at hR
  generalize hre : ri m 293 = r at hr hR
  obtain ⟨m2, ret, hop, hor⟩ := k_unassign (n0 := n0) (S0 := S0) (G := G) hR.2 hR.1 hP.1.1 (job := job)
  have hcl : ∀ d, Mt (n0, S0) (d + 14) 81 (.ref n0 :: [.int job]) (hp n0 G m, N, z) = some (stl n0 G m2 N z ret) := fun d => c_unassign (d := d + 10) h7.1 h7.2.2.1 (hc.1.2.2.1 nx h7.1) hc.1.1 hop
  rcases hor with ⟨hw, hret, hm⟩ | ⟨hw, hret, g1, g2, g3⟩
  · subst hm
    have hb : wUna r job ≤ 2 ∧ 1 ≤ eUna (wUna r job) ∧ eUna (wUna r job) ≤ 5 := by
      have h4 : wUna r job ≤ 2 := by
        unfold wUna
        repeat' split
        all_goals omega
      unfold eUna
      refine ⟨by omega, ?_, ?_⟩
      · first | omega | (repeat' split) <;> omega
      · first | omega | (repeat' split) <;> omega
    have hq1 := (q_unassign (n0 := n0) (S0 := S0) (G := G) (m := bgM (cpM m (49 + 23 * nx) 1)) (bg_f.trans hr) hR.1 (job := job)).1
    exact fin_no hI hTL hc hw hb.1 hret hb.2 hcl (fun d N z => m_unassignNo (d := d + 9) hq1 (by rw [ic_lt (by omega) (by omega)]; exact hw))
  · have hg := g_unassign hR.1 hw
    refine fin_ok hI hTL hc hret hg.2 (by omega) g3 g1 g2 hg.1 hcl (fun m3 d h293 h7c => ?_)
    rw [hre] at h293
    have hb3 : ri (bgM m3) 293 = r := bg_f.trans h293
    have hbc : ri (wa (bgM m3) 293 (nUna r job)) 292 7 = ic cnt := by rw [ri_an _ _ (by decide), bg_all.2.1 7 (by decide)]; exact h7c
    have hq1 := q_unassign (n0 := n0) (S0 := S0) (G := G) (m := bgM m3) hb3 hR.1 (job := job)
    have hq0 := hq1.1
    rw [hw] at hq0
    exact m_unassignOk (d := d + 9) hq0 (hq1.2 hw) hbc h7.2.1
theorem P_addStock (hI : Inv n0 N0 z0 q G m N z) (hq : q ≤ 512) {k c : Int32} : Pr n0 S0 N0 z0 q Int32.toInt64 82 [.int k, .int c] 151 [.int k, .int c] (2, eAdd) G m N z := by
  obtain ⟨⟨T, L, nx, cnt, hTL, hc⟩, _⟩ := id hI
  have hP := hc.prep
  have h7 := hc.2.2.2.2.2.2.1
  have hnx := h7.1
  have h8c := h7.2.1
  have hO := cpM_out (c := 1) (hc.1.2.2.1 nx h7.1)
  have hr : ri (cpM m (49 + 23 * nx) 1) 293 = ri m 293 := (hO 293 (by omega)).1
  have hR := hP.2.2.2.2.1
  unfold NI at hR
  rw [hr] at hR
  generalize hre : ri m 293 = r at hr hR
  obtain ⟨m2, ret, hop, hor⟩ := k_stock (n0 := n0) (S0 := S0) (G := G) hR.2 hR.1 hP.1.1 (k := k) (c := c)
  have hcl : ∀ d, Mt (n0, S0) (d + 14) 82 (.ref n0 :: [.int k, .int c]) (hp n0 G m, N, z) = some (stl n0 G m2 N z ret) := fun d => c_addStock (d := d + 10) h7.1 h7.2.2.1 (hc.1.2.2.1 nx h7.1) hc.1.1 hop
  rcases hor with ⟨hw, hret, hm⟩ | ⟨hw, hret, g1, g2, g3⟩
  · subst hm
    have hb : wStk r k c ≤ 2 ∧ 1 ≤ eAdd (wStk r k c) ∧ eAdd (wStk r k c) ≤ 5 := by
      have h4 : wStk r k c ≤ 2 := by
        unfold wStk
        repeat' split
        all_goals omega
      unfold eAdd
      refine ⟨by omega, ?_, ?_⟩
      · first | omega | (repeat' split) <;> omega
      · first | omega | (repeat' split) <;> omega
    have hq1 := (q_stock (n0 := n0) (S0 := S0) (G := G) (m := bgM (cpM m (49 + 23 * nx) 1)) (bg_f.trans hr) (k := k) (c := c)).1
    exact fin_no hI hTL hc hw hb.1 hret hb.2 hcl (fun d N z => m_addStockNo (d := d + 9) hq1 (by rw [ic_lt (by omega) (by omega)]; exact hw))
  · have hg := g_stock hR.1 hw
    refine fin_ok hI hTL hc hret hg.2 (by omega) g3 g1 g2 hg.1 hcl (fun m3 d h293 h7c => ?_)
    rw [hre] at h293
    have hb3 : ri (bgM m3) 293 = r := bg_f.trans h293
    have hbc : ri (wa (bgM m3) 293 (nStk r k c)) 292 7 = ic cnt := by rw [ri_an _ _ (by decide), bg_all.2.1 7 (by decide)]; exact h7c
    have hq1 := q_stock (n0 := n0) (S0 := S0) (G := G) (m := bgM m3) hb3 (k := k) (c := c)
    have hq0 := hq1.1
    rw [hw] at hq0
    exact m_addStockOk (d := d + 9) hq0 (hq1.2 hw) hbc h7.2.1
theorem P_load (hI : Inv n0 N0 z0 q G m N z) (hq : q ≤ 512) {w k c : Int32} : Pr n0 S0 N0 z0 q Int32.toInt64 83 [.int w, .int k, .int c] 154 [.int w, .int k, .int c] (4, eLod) G m N z := by
  obtain ⟨⟨T, L, nx, cnt, hTL, hc⟩, _⟩ := id hI
  have hP := hc.prep
  have h7 := hc.2.2.2.2.2.2.1
  have hnx := h7.1
  have h8c := h7.2.1
  have hO := cpM_out (c := 1) (hc.1.2.2.1 nx h7.1)
  have hr : ri (cpM m (49 + 23 * nx) 1) 293 = ri m 293 := (hO 293 (by omega)).1
  have hR := hP.2.2.2.2.1
  unfold NI at hR
  rw [hr] at hR
  generalize hre : ri m 293 = r at hr hR
  obtain ⟨m2, ret, hop, hor⟩ := k_load (n0 := n0) (S0 := S0) (G := G) hR.2 hR.1 hP.1.1 (w := w) (k := k) (c := c)
  have hcl : ∀ d, Mt (n0, S0) (d + 14) 83 (.ref n0 :: [.int w, .int k, .int c]) (hp n0 G m, N, z) = some (stl n0 G m2 N z ret) := fun d => c_load (d := d + 10) h7.1 h7.2.2.1 (hc.1.2.2.1 nx h7.1) hc.1.1 hop
  rcases hor with ⟨hw, hret, hm⟩ | ⟨hw, hret, g1, g2, g3⟩
  · subst hm
    have hb : wLod r w k c ≤ 4 ∧ 1 ≤ eLod (wLod r w k c) ∧ eLod (wLod r w k c) ≤ 5 := by
      have h4 : wLod r w k c ≤ 4 := by
        unfold wLod
        repeat' split
        all_goals omega
      unfold eLod
      refine ⟨by omega, ?_, ?_⟩
      · first | omega | (repeat' split) <;> omega
      · first | omega | (repeat' split) <;> omega
    have hq1 := (q_load (n0 := n0) (S0 := S0) (G := G) (m := bgM (cpM m (49 + 23 * nx) 1)) (bg_f.trans hr) (w := w) (k := k) (c := c)).1
    exact fin_no hI hTL hc hw hb.1 hret hb.2 hcl (fun d N z => m_loadNo (d := d + 9) hq1 (by rw [ic_lt (by omega) (by omega)]; exact hw))
  · have hg := g_load hR.1 hw
    refine fin_ok hI hTL hc hret hg.2 (by omega) g3 g1 g2 hg.1 hcl (fun m3 d h293 h7c => ?_)
    rw [hre] at h293
    have hb3 : ri (bgM m3) 293 = r := bg_f.trans h293
    have hbc : ri (wa (bgM m3) 293 (nLod r w k c)) 292 7 = ic cnt := by rw [ri_an _ _ (by decide), bg_all.2.1 7 (by decide)]; exact h7c
    have hq1 := q_load (n0 := n0) (S0 := S0) (G := G) (m := bgM m3) hb3 (w := w) (k := k) (c := c)
    have hq0 := hq1.1
    rw [hw] at hq0
    exact m_loadOk (d := d + 9) hq0 (hq1.2 hw) hbc h7.2.1
theorem P_borrow (hI : Inv n0 N0 z0 q G m N z) (hq : q ≤ 512) {w t : Int32} : Pr n0 S0 N0 z0 q Int32.toInt64 84 [.int w, .int t] 161 [.int w, .int t] (2, eHnd) G m N z := by
  obtain ⟨⟨T, L, nx, cnt, hTL, hc⟩, _⟩ := id hI
  have hP := hc.prep
  have h7 := hc.2.2.2.2.2.2.1
  have hnx := h7.1
  have h8c := h7.2.1
  have hO := cpM_out (c := 1) (hc.1.2.2.1 nx h7.1)
  have hr : ri (cpM m (49 + 23 * nx) 1) 293 = ri m 293 := (hO 293 (by omega)).1
  have hR := hP.2.2.2.2.1
  unfold NI at hR
  rw [hr] at hR
  generalize hre : ri m 293 = r at hr hR
  obtain ⟨m2, ret, hop, hor⟩ := k_borrow (n0 := n0) (S0 := S0) (G := G) hR.2 hR.1 hP.1.1 (w := w) (t := t)
  have hcl : ∀ d, Mt (n0, S0) (d + 14) 84 (.ref n0 :: [.int w, .int t]) (hp n0 G m, N, z) = some (stl n0 G m2 N z ret) := fun d => c_borrow (d := d + 10) h7.1 h7.2.2.1 (hc.1.2.2.1 nx h7.1) hc.1.1 hop
  rcases hor with ⟨hw, hret, hm⟩ | ⟨hw, hret, g1, g2, g3⟩
  · subst hm
    have hb : wHnd r w t (ic 0) ≤ 2 ∧ 1 ≤ eHnd (wHnd r w t (ic 0)) ∧ eHnd (wHnd r w t (ic 0)) ≤ 5 := by
      have h4 : wHnd r w t (ic 0) ≤ 2 := by
        unfold wHnd
        repeat' split
        all_goals omega
      unfold eHnd
      refine ⟨by omega, ?_, ?_⟩
      · first | omega | (repeat' split) <;> omega
      · first | omega | (repeat' split) <;> omega
    have hq1 := (q_hand (n0 := n0) (S0 := S0) (G := G) (m := bgM (cpM m (49 + 23 * nx) 1)) (bg_f.trans hr) (w := w) (t := t) (h := ic 0)).1
    exact fin_no hI hTL hc hw hb.1 hret hb.2 hcl (fun d N z => m_borrowNo (d := d + 9) hq1 (by rw [ic_lt (by omega) (by omega)]; exact hw))
  · have hg3 : isN (w + ic 1) 3 := by
      have hw3 : (¬ w < ic 0 ∧ w < ic 3) := Classical.byContradiction (fun z => by
        unfold wHnd at hw
        rw [if_neg (fun y => z y.1)] at hw
        exact absurd hw (Nat.succ_ne_zero _))
      obtain ⟨w, hw3, rfl⟩ := rng_of (by decide) hw3
      exact ⟨w + 1, by omega, ic_add _ _⟩
    have hg := g_hand hR.1 hw hg3
    refine fin_ok hI hTL hc hret hg.2 (by omega) g3 g1 g2 hg.1 hcl (fun m3 d h293 h7c => ?_)
    rw [hre] at h293
    have hb3 : ri (bgM m3) 293 = r := bg_f.trans h293
    have hbc : ri (wa (bgM m3) 293 (nHnd r t (w + ic 1))) 292 7 = ic cnt := by rw [ri_an _ _ (by decide), bg_all.2.1 7 (by decide)]; exact h7c
    have hq1 := q_hand (n0 := n0) (S0 := S0) (G := G) (m := bgM m3) hb3 (w := w) (t := t) (h := ic 0)
    have hq0 := hq1.1
    rw [hw] at hq0
    exact m_borrowOk (d := d + 9) hq0 (hq1.2 hw (w + ic 1)) hbc h7.2.1
theorem P_giveBack (hI : Inv n0 N0 z0 q G m N z) (hq : q ≤ 512) {w t : Int32} : Pr n0 S0 N0 z0 q Int32.toInt64 85 [.int w, .int t] 165 [.int w, .int t] (2, eHnd) G m N z := by
  obtain ⟨⟨T, L, nx, cnt, hTL, hc⟩, _⟩ := id hI
  have hP := hc.prep
  have h7 := hc.2.2.2.2.2.2.1
  have hnx := h7.1
  have h8c := h7.2.1
  have hO := cpM_out (c := 1) (hc.1.2.2.1 nx h7.1)
  have hr : ri (cpM m (49 + 23 * nx) 1) 293 = ri m 293 := (hO 293 (by omega)).1
  have hR := hP.2.2.2.2.1
  unfold NI at hR
  rw [hr] at hR
  generalize hre : ri m 293 = r at hr hR
  obtain ⟨m2, ret, hop, hor⟩ := k_giveBack (n0 := n0) (S0 := S0) (G := G) hR.2 hR.1 hP.1.1 (w := w) (t := t)
  have hcl : ∀ d, Mt (n0, S0) (d + 14) 85 (.ref n0 :: [.int w, .int t]) (hp n0 G m, N, z) = some (stl n0 G m2 N z ret) := fun d => c_giveBack (d := d + 10) h7.1 h7.2.2.1 (hc.1.2.2.1 nx h7.1) hc.1.1 hop
  rcases hor with ⟨hw, hret, hm⟩ | ⟨hw, hret, g1, g2, g3⟩
  · subst hm
    have hb : wHnd r w t (w + ic 1) ≤ 2 ∧ 1 ≤ eHnd (wHnd r w t (w + ic 1)) ∧ eHnd (wHnd r w t (w + ic 1)) ≤ 5 := by
      have h4 : wHnd r w t (w + ic 1) ≤ 2 := by
        unfold wHnd
        repeat' split
        all_goals omega
      unfold eHnd
      refine ⟨by omega, ?_, ?_⟩
      · first | omega | (repeat' split) <;> omega
      · first | omega | (repeat' split) <;> omega
    have hq1 := (q_hand (n0 := n0) (S0 := S0) (G := G) (m := bgM (cpM m (49 + 23 * nx) 1)) (bg_f.trans hr) (w := w) (t := t) (h := w + ic 1)).1
    exact fin_no hI hTL hc hw hb.1 hret hb.2 hcl (fun d N z => m_giveBackNo (d := d + 9) hq1 (by rw [ic_lt (by omega) (by omega)]; exact hw))
  · have hg3 : isN (ic 0) 3 := ⟨0, by decide, rfl⟩
    have hg := g_hand hR.1 hw hg3
    refine fin_ok hI hTL hc hret hg.2 (by omega) g3 g1 g2 hg.1 hcl (fun m3 d h293 h7c => ?_)
    rw [hre] at h293
    have hb3 : ri (bgM m3) 293 = r := bg_f.trans h293
    have hbc : ri (wa (bgM m3) 293 (nHnd r t (ic 0))) 292 7 = ic cnt := by rw [ri_an _ _ (by decide), bg_all.2.1 7 (by decide)]; exact h7c
    have hq1 := q_hand (n0 := n0) (S0 := S0) (G := G) (m := bgM m3) hb3 (w := w) (t := t) (h := w + ic 1)
    have hq0 := hq1.1
    rw [hw] at hq0
    exact m_giveBackOk (d := d + 9) hq0 (hq1.2 hw (ic 0)) hbc h7.2.1
theorem P_repair (hI : Inv n0 N0 z0 q G m N z) (hq : q ≤ 512) {w job : Int32} : Pr n0 S0 N0 z0 q Int32.toInt64 86 [.int w, .int job] 166 [.int w, .int job] (4, eRep) G m N z := by
  obtain ⟨⟨T, L, nx, cnt, hTL, hc⟩, _⟩ := id hI
  have hP := hc.prep
  have h7 := hc.2.2.2.2.2.2.1
  have hnx := h7.1
  have h8c := h7.2.1
  have hO := cpM_out (c := 1) (hc.1.2.2.1 nx h7.1)
  have hr : ri (cpM m (49 + 23 * nx) 1) 293 = ri m 293 := (hO 293 (by omega)).1
  have hR := hP.2.2.2.2.1
  unfold NI at hR
  rw [hr] at hR
  generalize hre : ri m 293 = r at hr hR
  obtain ⟨m2, ret, hop, hor⟩ := k_repair (n0 := n0) (S0 := S0) (G := G) hR.2 hR.1 (by omega) hP.1.1 (w := w) (job := job)
  have hcl : ∀ d, Mt (n0, S0) (d + 14) 86 (.ref n0 :: [.int w, .int job]) (hp n0 G m, N, z) = some (stl n0 G m2 N z ret) := fun d => c_repair (d := d + 9) h7.1 h7.2.2.1 (hc.1.2.2.1 nx h7.1) hc.1.1 hop
  rcases hor with ⟨hw, hret, hm⟩ | ⟨hw, hret, g1, g2, g3⟩
  · subst hm
    have hb : wRep r w job ≤ 4 ∧ 1 ≤ eRep (wRep r w job) ∧ eRep (wRep r w job) ≤ 5 := by
      have h4 : wRep r w job ≤ 4 := by
        unfold wRep
        repeat' split
        all_goals omega
      unfold eRep
      refine ⟨by omega, ?_, ?_⟩
      · first | omega | (repeat' split) <;> omega
      · first | omega | (repeat' split) <;> omega
    have hq1 := (q_repair (n0 := n0) (S0 := S0) (G := G) (m := bgM (cpM m (49 + 23 * nx) 1)) (bg_f.trans hr) hR.1 (w := w) (job := job)).1
    exact fin_no hI hTL hc hw hb.1 hret hb.2 hcl (fun d N z => m_repairNo (d := d + 9) hq1 (by rw [ic_lt (by omega) (by omega)]; exact hw))
  · have hg := g_repair hR.1 (by omega) hw
    refine fin_ok hI hTL hc hret hg.2 (by omega) g3 g1 g2 hg.1 hcl (fun m3 d h293 h7c => ?_)
    rw [hre] at h293
    have hb3 : ri (bgM m3) 293 = r := bg_f.trans h293
    have hbc : ri (wa (bgM m3) 293 (nRep r w job)) 292 7 = ic cnt := by rw [ri_an _ _ (by decide), bg_all.2.1 7 (by decide)]; exact h7c
    have hq1 := q_repair (n0 := n0) (S0 := S0) (G := G) (m := bgM m3) hb3 hR.1 (w := w) (job := job)
    have hq0 := hq1.1
    rw [hw] at hq0
    exact m_repairOk (d := d + 9) hq0 (hq1.2 hw) hbc h7.2.1
theorem P_goHome (hI : Inv n0 N0 z0 q G m N z) (hq : q ≤ 512) {w : Int32} : Pr n0 S0 N0 z0 q Int32.toInt64 87 [.int w] 174 [.int w] (1, eHom) G m N z := by
  obtain ⟨⟨T, L, nx, cnt, hTL, hc⟩, _⟩ := id hI
  have hP := hc.prep
  have h7 := hc.2.2.2.2.2.2.1
  have hnx := h7.1
  have h8c := h7.2.1
  have hO := cpM_out (c := 1) (hc.1.2.2.1 nx h7.1)
  have hr : ri (cpM m (49 + 23 * nx) 1) 293 = ri m 293 := (hO 293 (by omega)).1
  have hR := hP.2.2.2.2.1
  unfold NI at hR
  rw [hr] at hR
  generalize hre : ri m 293 = r at hr hR
  obtain ⟨m2, ret, hop, hor⟩ := k_goHome (n0 := n0) (S0 := S0) (G := G) hR.2 hR.1 hP.1.1 (w := w)
  have hcl : ∀ d, Mt (n0, S0) (d + 14) 87 (.ref n0 :: [.int w]) (hp n0 G m, N, z) = some (stl n0 G m2 N z ret) := fun d => c_goHome (d := d + 10) h7.1 h7.2.2.1 (hc.1.2.2.1 nx h7.1) hc.1.1 hop
  rcases hor with ⟨hw, hret, hm⟩ | ⟨hw, hret, g1, g2, g3⟩
  · subst hm
    have hb : wHom w ≤ 1 ∧ 1 ≤ eHom (wHom w) ∧ eHom (wHom w) ≤ 5 := by
      have h4 : wHom w ≤ 1 := by
        unfold wHom
        repeat' split
        all_goals omega
      unfold eHom
      refine ⟨by omega, ?_, ?_⟩
      · first | omega | (repeat' split) <;> omega
      · first | omega | (repeat' split) <;> omega
    have hn : ¬ (¬ w < ic 0 ∧ w < ic 3) := fun z => by
      unfold wHom at hw
      rw [if_pos z] at hw
      exact absurd hw (Nat.lt_irrefl 0)
    have hw1 : wHom w = 1 := if_neg hn
    refine fin_no hI hTL hc hw hb.1 hret hb.2 hcl (fun d N z => ?_)
    rw [hw1]
    exact m_homeNo (d := d + 9) hn
  · have hg := g_home hR.1 hw
    refine fin_ok hI hTL hc hret hg.2 (by omega) g3 g1 g2 hg.1 hcl (fun m3 d h293 h7c => ?_)
    rw [hre] at h293
    have hb3 : ri (bgM m3) 293 = r := bg_f.trans h293
    have hbc : ri (wa (bgM m3) 293 (nHom r w)) 292 7 = ic cnt := by rw [ri_an _ _ (by decide), bg_all.2.1 7 (by decide)]; exact h7c
    have hw3 : (¬ w < ic 0 ∧ w < ic 3) := Classical.byContradiction (fun z => by
      unfold wHom at hw
      rw [if_neg z] at hw
      exact absurd hw (Nat.succ_ne_zero _))
    obtain ⟨w, hw4, rfl⟩ := rng_of (by decide) hw3
    have := m_homeOk (n0 := n0) (S0 := S0) (G := G) (d := d + 9) (N := N) (z := z) (m := m3) (dp := cnt) hw4 h7c h7.2.1
    unfold nHom vHom
    rw [wO_ic (by omega)]
    rw [h293] at this
    exact this
theorem P_rest (hI : Inv n0 N0 z0 q G m N z) (hq : q ≤ 512) {w u : Int32} : Pr n0 S0 N0 z0 q Int32.toInt64 88 [.int w, .int u] 176 [.int w, .int u] (2, eRst) G m N z := by
  obtain ⟨⟨T, L, nx, cnt, hTL, hc⟩, _⟩ := id hI
  have hP := hc.prep
  have h7 := hc.2.2.2.2.2.2.1
  have hnx := h7.1
  have h8c := h7.2.1
  have hO := cpM_out (c := 1) (hc.1.2.2.1 nx h7.1)
  have hr : ri (cpM m (49 + 23 * nx) 1) 293 = ri m 293 := (hO 293 (by omega)).1
  have hR := hP.2.2.2.2.1
  unfold NI at hR
  rw [hr] at hR
  generalize hre : ri m 293 = r at hr hR
  obtain ⟨m2, ret, hop, hor⟩ := k_rest (n0 := n0) (S0 := S0) (G := G) hR.2 hR.1 hP.1.1 (w := w) (u := u)
  have hcl : ∀ d, Mt (n0, S0) (d + 14) 88 (.ref n0 :: [.int w, .int u]) (hp n0 G m, N, z) = some (stl n0 G m2 N z ret) := fun d => c_rest (d := d + 10) h7.1 h7.2.2.1 (hc.1.2.2.1 nx h7.1) hc.1.1 hop
  rcases hor with ⟨hw, hret, hm⟩ | ⟨hw, hret, g1, g2, g3⟩
  · subst hm
    have hb : wRst w u ≤ 2 ∧ 1 ≤ eRst (wRst w u) ∧ eRst (wRst w u) ≤ 5 := by
      have h4 : wRst w u ≤ 2 := by
        unfold wRst
        repeat' split
        all_goals omega
      unfold eRst
      refine ⟨by omega, ?_, ?_⟩
      · first | omega | (repeat' split) <;> omega
      · first | omega | (repeat' split) <;> omega
    have hq1 := (q_rest (n0 := n0) (S0 := S0) (G := G) (m := bgM (cpM m (49 + 23 * nx) 1)) (bg_f.trans hr) (w := w) (u := u)).1
    exact fin_no hI hTL hc hw hb.1 hret hb.2 hcl (fun d N z => m_restNo (d := d + 9) hq1 (by rw [ic_lt (by omega) (by omega)]; exact hw))
  · have hg := g_rest hR.1 hw
    refine fin_ok hI hTL hc hret hg.2 (by omega) g3 g1 g2 hg.1 hcl (fun m3 d h293 h7c => ?_)
    rw [hre] at h293
    have hb3 : ri (bgM m3) 293 = r := bg_f.trans h293
    have hbc : ri (wa (bgM m3) 293 (nRst r w u)) 292 7 = ic cnt := by rw [ri_an _ _ (by decide), bg_all.2.1 7 (by decide)]; exact h7c
    have hq1 := q_rest (n0 := n0) (S0 := S0) (G := G) (m := bgM m3) hb3 (w := w) (u := u)
    have hq0 := hq1.1
    rw [hw] at hq0
    exact m_restOk (d := d + 9) hq0 (hq1.2 hw) hbc h7.2.1
end P15b
