/-! run: class against reference; written by wip/whole/gen_p21.py, expanded by px.py -/
def Core0 (T nx cnt : Nat) (m : mm) : Prop := JA m ∧ PI6 m ∧ EI (ri m 0 7) (ri m 292 8) ∧ EI (ri m 0 8) (ri m 292 9) ∧ NI T m ∧ SI T m ∧ HI T m nx cnt
section P21
variable {m m2 mF : mm} {T T2 L nx cnt : Nat} {r r2 : Nat → Int32}
theorem Core0.prep (h : Core0 T nx cnt m) : Core0 T nx cnt (cpM m (49 + 23 * nx) 1) := by
  obtain ⟨c1, c2, c3, c4, c5, c6, c7⟩ := h
  have hnx := c7.1
  have hE := cpM_out (c := 1) (c1.2.2.1 nx hnx)
  have e : ∀ x, x < 49 + 23 * nx ∨ 49 + 23 * nx + 23 ≤ x → ri (cpM m (49 + 23 * nx) 1) x = ri m x ∧ rp (cpM m (49 + 23 * nx) 1) x = rp m x ∧ rl (cpM m (49 + 23 * nx) 1) x = rl m x := fun x hx => ⟨(hE x hx).1, (hE x hx).2.1, (hE x hx).2.2.1⟩
  refine ⟨c1.congr (fun x _ => by rw [cpM_rp]), ?_, ?_, ?_, c5.congr (Nat.le_refl _) c1.1 (e _ (by omega)).1 (fun x _ g => e x (by omega)), c6.congr (Nat.le_refl _) c1.2.1 (by rw [(e 0 (by omega)).1]) (by rw [(e 292 (by omega)).1]) (e _ (by omega)).1 (fun x _ g => e x (by omega)), c7.congr (Nat.le_refl _) c1.2.2.1 (e _ (by omega)).1 (by rw [(e 292 (by omega)).1]) (e _ (by omega)).1 (fun x _ _ g => e x g)⟩
  · unfold PI6
    rw [(e 258 (by omega)).1, (e 297 (by omega)).1]
    exact c2
  · rw [(e 0 (by omega)).1, (e 292 (by omega)).1]
    exact c3
  · rw [(e 0 (by omega)).1, (e 292 (by omega)).1]
    exact c4
theorem Core0.done {mF : mm} {L2 : Nat} (h : Core0 T nx cnt m) (hT : T ≤ T2) (hE : eqS 1 24 (cpM m (49 + 23 * nx) 1) m2) (hC2 : CL m2 1 r2) (hJ2 : JV m2 1) (hR2 : RW T2 r2)
    (hri : ∀ x, x < 256 → x ≠ 47 → ri mF x = ri m2 x) (hrp : ∀ x, x < 256 ∨ x = 257 → rp mF x = rp m2 x) (hrl : ∀ x, x < 256 → rl mF x = rl m2 x) (h47 : ri mF 47 1 = ic (nxN nx) ∧ ri mF 47 2 = ic (cnN cnt)) (h293 : ri mF 293 = r2) (hp6 : PI6 mF) (h295 : ri mF 295 = ri m 295) (h292 : ∀ i, i = 8 ∨ i = 9 ∨ i = 12 → ri mF 292 i = ri m 292 i) (h7 : ri mF 292 7 = ic (cnN cnt)) (hx4 : XI mF L2)
    (ha : cnt < 8 → (∀ i, i < cnt → ∀ x, x < 140 → hr mF i x = hr m i x) ∧ ∀ x, x < 140 → hr mF cnt x = ri m 293 x) (hb : cnt = 8 → (∀ i, i < 7 → ∀ x, x < 140 → hr mF i x = hr m (i + 1) x) ∧ ∀ x, x < 140 → hr mF 7 x = ri m 293 x) : Core T2 L2 (nxN nx) (cnN cnt) mF := by
  have hP := h.prep
  obtain ⟨c1, c2, c3, c4, c5, c6, c7⟩ := h
  obtain ⟨p1, p2, p3, p4, p5, p6, p7⟩ := hP
  have hnx := c7.1
  have hO := cpM_out (c := 1) (c1.2.2.1 nx hnx)
  have e2 : ∀ x, 24 ≤ x → x < 256 → x ≠ 47 → ri mF x = ri (cpM m (49 + 23 * nx) 1) x ∧ rp mF x = rp (cpM m (49 + 23 * nx) 1) x ∧ rl mF x = rl (cpM m (49 + 23 * nx) 1) x := fun x h1 h2 h3 => by
    have := hE x (by omega)
    exact ⟨(hri x h2 h3).trans this.1, (hrp x (Or.inl h2)).trans this.2.1, (hrl x h2).trans this.2.2.1⟩
  have e0 : ri mF 0 = ri m 0 := by rw [hri 0 (by omega) (by omega), (hE 0 (by omega)).1, (hO 0 (by omega)).1]
  refine ⟨⟨hJ2.congr (hrp 2 (by omega)), p1.2.1.congr (e2 25 (by omega) (by omega) (by omega)).2.1, fun q hq => (p1.2.2.1 q hq).congr (e2 (49 + 23 * q + 1) (by omega) (by omega) (by omega)).2.1, ?_⟩, hp6, ?_, ?_, ⟨by rw [h293]; exact hR2, ?_⟩, ?_, ?_, hx4⟩
  · have := c1.2.2.2
    unfold JP at this ⊢
    rw [hrp 257 (Or.inr rfl), (hE 257 (by omega)).2.1, (hO 257 (by omega)).2.1]
    exact this
  · rw [e0, h292 8 (by omega)]
    exact c3
  · rw [e0, h292 9 (by omega)]
    exact c4
  · rw [h293]
    exact hC2.congr hR2.n12 hJ2 (fun q h1 h2 => ⟨hri q (by omega) (by omega), hrp q (by omega), hrl q (by omega)⟩)
  · refine p6.congr hT p1.2.1 ?_ ?_ ?_ (fun x h1 h2 => e2 x h1 (by omega) (by omega))
    · rw [e0, (hO 0 (by omega)).1]
    · rw [h292 12 (by omega), (hO 292 (by omega)).1]
    · rw [h295, (hO 295 (by omega)).1]
  · refine c7.push hT c1.2.2.1 c5.1 ?_ ?_ h47.1 h47.2 h7 ha hb
    · have := cpM_CL (c1.2.2.1 nx hnx) c5.2 c5.1.n12
      exact this.congr c5.1.n12 (p1.2.2.1 nx hnx) (fun q h1 h2 => e2 q (by omega) (by omega) (by omega))
    · intro x h1 h2 h3
      have := e2 x (by omega) h2 (by omega)
      have g := hO x (by omega)
      exact ⟨this.1.trans g.1, this.2.1.trans g.2.1, this.2.2.trans g.2.2.1⟩
theorem fndA_first {P : Nat → Prop} [DecidablePred P] : ∀ (k i a : Nat), fndA P i k = some a → ∀ j, i ≤ j → j < a → ¬ P j := by
  intro k
  induction k with
  | zero => intro i a h; cases h
  | succ k ih =>
    intro i a h j h1 h2
    unfold fndA at h
    by_cases g : P i
    · rw [if_pos g] at h
      have := Option.some.inj h
      omega
    · rw [if_neg g] at h
      by_cases e : j = i
      · rw [e]; exact g
      · exact ih (i + 1) a h j (by omega) h2
theorem fndA_no {P : Nat → Prop} [DecidablePred P] : ∀ (k i : Nat), fndA P i k = none → ∀ j, i ≤ j → j < i + k → ¬ P j := by
  intro k
  induction k with
  | zero => intro i h j h1 h2; omega
  | succ k ih =>
    intro i h j h1 h2
    unfold fndA at h
    by_cases g : P i
    · rw [if_pos g] at h
      cases h
    · rw [if_neg g] at h
      by_cases e : j = i
      · rw [e]; exact g
      · exact ih (i + 1) h j (by omega) (by omega)
theorem paF_ind {t : Nat → Int32} {l : Nat} : ∀ (f : Nat) (m m2 : mm) (c : Nat) (s : rS), (paF t l f m c s).2 = (paF t l f m2 c s).2 := by
  intro f
  induction f with
  | zero => intro m m2 c s; rfl
  | succ f ih =>
    intro m m2 c s
    rw [paF_s, paF_s]
    by_cases h : mkF t l s.2.1 s.2.2 = ic 59
    · rw [if_pos h, if_pos h]
      exact ih _ _ _ _
    · rw [if_neg h, if_neg h]
theorem vv_inj {n0 w j k : Nat} {G : sH} {S0 : Nat → Value} {vv : Nat → Nat} (h : isSw n0 G S0 vv w) (hj : j < 11) (hk : k < 11) (e : vv j = vv k) : j = k := by
  have h1 := (h.2.2 j hj).2.2.1
  have h2 := (h.2.2 k hk).2.2.1
  rw [e, h2] at h1
  have h3 := Value.int.inj (Option.some.inj h1)
  rw [ic_eq (by omega) (by omega)] at h3
  exact h3.symm
theorem m3_all {mb Y1 : mm} {s : rS} (hF : FR 0 (paA mb L) Y1) : (∀ x, x ≠ 292 → x ≠ 301 → x ≠ 302 → ri (rsM Y1 s) x = ri mb x) ∧ (∀ i, i ≠ 18 → i ≠ 19 → i ≠ 20 → i ≠ 21 → i ≠ 22 → ri (rsM Y1 s) 292 i = ri mb 292 i) ∧ ri (rsM Y1 s) 292 18 = ic 0 ∧ ri (rsM Y1 s) 292 21 = ri Y1 292 21 ∧ ri (rsM Y1 s) 292 22 = bw s.2.2 ∧ ri (rsM Y1 s) 292 20 = ic s.2.1 ∧ ri (rsM Y1 s) 301 = ri Y1 301 ∧ ri (rsM Y1 s) 302 = s.1 ∧ rp (rsM Y1 s) = rp mb ∧ rl (rsM Y1 s) = rl mb := by
  have hpa : ∀ x, x ≠ 292 → ri (paA mb L) x = ri mb x := fun x hx => by
    unfold paA
    rw [ri_wn _ _ _ hx, ri_wn _ _ _ hx, ri_wn _ _ _ hx]
  have hpb : ri (paA mb L) 292 = upd (upd (upd (ri mb 292) 19 (ic L)) 18 (ic 0)) 21 (ic 0) := by
    unfold paA
    rw [ri_ws, ri_ws, ri_ws]
  unfold rsM
  refine ⟨fun x h1 h2 h3 => by rw [psR_o h1, ri_an _ _ h3, hF.1 x h1 h2, hpa x h1], fun i h1 h2 h3 h4 h5 => by rw [psR_f h3 h5, ri_an _ _ (by decide), hF.2.1 i h4, hpb, upd_n _ _ h4, upd_n _ _ h1, upd_n _ _ h2], by rw [psR_f (by decide) (by decide), ri_an _ _ (by decide), hF.2.1 18 (by decide), hpb, upd_n _ _ (by decide), upd_s], by rw [psR_f (by decide) (by decide), ri_an _ _ (by decide)], psR_22, psR_20, by rw [psR_o (by decide), ri_an _ _ (by decide)], by rw [psR_o (by decide), ri_as], ?_, ?_⟩
  · show rp Y1 = _
    exact hF.2.2.2.1
  · show rl Y1 = _
    exact hF.2.2.2.2.1
/-- the commands one after another -/
def seqA (n0 : Nat) (S0 : Nat → Value) (G : sH) (mp : mm) (r b : Nat → Int32) (T : Nat) (W : Nat → Nat) (j : Nat) : Prop := ∃ (M : Nat → mm) (R : Nat → Int32) (ρ : Nat → Nat → Int32), M 0 = mp ∧ ρ 0 = r ∧ (∀ i, i < j → (∀ d N z, Mt (n0, S0) (d + 5) 122 [.ref n0, .ref (n0 + (272 + 2 * i))] (hp n0 G (M i), N, z) = oI n0 G (M (i + 1)) N z (R i)) ∧ ((R i < ic 0 ∧ M (i + 1) = M i ∧ ∀ mR, ri mR 293 = ρ i → ri mR 301 i = ic (W i) → ri mR 302 = b → ∀ d N z, Mt (n0, S0) (d + 5) 240 [.ref (n0 + 292), .int (ic i)] (hp n0 G mR, N, z) = oI n0 G mR N z (ic 1)) ∨ (¬ R i < ic 0 ∧ ∀ mR, ri mR 293 = ρ i → ri mR 301 i = ic (W i) → ri mR 302 = b → ∀ d N z, Mt (n0, S0) (d + 5) 240 [.ref (n0 + 292), .int (ic i)] (hp n0 G mR, N, z) = oI n0 G (wa mR 293 (ρ (i + 1))) N z (ic 0)))) ∧ ∀ i, i ≤ j → eqS 1 24 mp (M i) ∧ CL (M i) 1 (ρ i) ∧ JV (M i) 1 ∧ RW (T + i) (ρ i)
theorem seq_all {n0 w0 : Nat} {S0 : Nat → Value} {G : sH} {mp : mm} {b : Nat → Int32} {W : Nat → Nat} {vv : Nat → Nat} {K : Nat} (hsw : isSw n0 G S0 vv w0) (hK : K ≤ 9) (hT : T + K ≤ 1000) (hC : CL mp 1 r) (hJ : JV mp 1) (hR : RW T r) (hcm : ∀ i, i < K → W i < 11 ∧ rp mp (272 + 2 * i) 0 = vv (W i) ∧ AL (W i) i (ri mp (272 + 2 * i + 1)) b (tlL (W i)) 0) : ∀ j, j ≤ K → seqA n0 S0 G mp r b T W j := by
  intro j
  induction j with
  | zero => intro _; exact ⟨fun _ => mp, fun _ => 0, fun _ => r, rfl, rfl, fun i hi => absurd hi (Nat.not_lt_zero i), fun i hi => by
      have : i = 0 := by omega
      subst this
      exact ⟨eqS_r _ _ _, hC, hJ, hR⟩⟩
  | succ j ih =>
    intro hj
    obtain ⟨M, R, ρ, h0, hρ, hs, he⟩ := ih (by omega)
    obtain ⟨a1, a2, a3, a4⟩ := he j (Nat.le_refl j)
    obtain ⟨c1, c2, c3⟩ := hcm j (by omega)
    have e1 := a1 (272 + 2 * j) (by omega)
    have e2 := a1 (272 + 2 * j + 1) (by omega)
    obtain ⟨mC2, ret, why, r2, s1, s2, s3⟩ := s_all (n0 := n0) (S0 := S0) (G := G) (i := j) c1 a2 a4 (by omega) a3 hsw (by omega) (by rw [e1.2.1]; exact c2) (by rw [e2.1]; exact c3)
    have key : ∀ (ρ2 : Nat → Int32), (CL mC2 1 ρ2 ∧ JV mC2 1 ∧ RW (T + (j + 1)) ρ2 ∧ eqS 1 24 mp mC2) → ((ret < ic 0 ∧ mC2 = M j ∧ ∀ mR, ri mR 293 = ρ j → ri mR 301 j = ic (W j) → ri mR 302 = b → ∀ d N z, Mt (n0, S0) (d + 5) 240 [.ref (n0 + 292), .int (ic j)] (hp n0 G mR, N, z) = oI n0 G mR N z (ic 1)) ∨ (¬ ret < ic 0 ∧ ∀ mR, ri mR 293 = ρ j → ri mR 301 j = ic (W j) → ri mR 302 = b → ∀ d N z, Mt (n0, S0) (d + 5) 240 [.ref (n0 + 292), .int (ic j)] (hp n0 G mR, N, z) = oI n0 G (wa mR 293 ρ2) N z (ic 0))) → seqA n0 S0 G mp r b T W (j + 1) := fun ρ2 hg hstep => by
      have mo : ∀ {α : Type} (f : Nat → α) (y : α) (i : Nat), i ≤ j → (if i ≤ j then f i else y) = f i := fun f y i hi => if_pos hi
      have mn : ∀ {α : Type} (f : Nat → α) (y : α), (if j + 1 ≤ j then f (j + 1) else y) = y := fun f y => if_neg (by omega)
      refine ⟨fun i => if i ≤ j then M i else mC2, fun i => if i < j then R i else ret, fun i => if i ≤ j then ρ i else ρ2, ?_, ?_, fun i hi => ?_, fun i hi => ?_⟩
      · dsimp only
        rw [mo M mC2 0 (by omega)]; exact h0
      · dsimp only
        rw [mo ρ ρ2 0 (by omega)]; exact hρ
      · by_cases e : i = j
        · subst e
          dsimp only
          rw [mo M mC2 i (Nat.le_refl i), mn M mC2, if_neg (Nat.lt_irrefl i), mo ρ ρ2 i (Nat.le_refl i), mn ρ ρ2]
          exact ⟨s1, hstep⟩
        · dsimp only
          rw [mo M mC2 i (by omega), mo M mC2 (i + 1) (by omega), if_pos (show i < j by omega), mo ρ ρ2 i (by omega), mo ρ ρ2 (i + 1) (by omega)]
          exact hs i (by omega)
      · by_cases e : i = j + 1
        · subst e
          dsimp only
          rw [mn M mC2, mn ρ ρ2]
          exact ⟨hg.2.2.2, hg.1, hg.2.1, hg.2.2.1⟩
        · dsimp only
          rw [mo M mC2 i (by omega), mo ρ ρ2 i (by omega)]
          exact he i (by omega)
    rcases s2 with ⟨b1, b2, b3⟩ | ⟨b1, b2, b3, b4, b5, b6⟩
    · refine key (ρ j) ⟨by rw [b3]; exact a2, by rw [b3]; exact a3, a4.mono (by omega), by rw [b3]; exact a1⟩ (Or.inl ⟨b2, b3, fun mR g1 g2 g3 => (s3 mR g1 g2 g3).1 b1⟩)
    · exact key r2 ⟨b3, b4, b6, a1.trans b5⟩ (Or.inr ⟨b2, fun mR g1 g2 g3 => (s3 mR g1 g2 g3).2 b1⟩)
end P21
def eRun (y : Nat) : Nat := if y = 1 then 1 else 5
section P21b
variable {n0 N z N0 z0 q T L nx cnt : Nat} {S0 : Nat → Value} {G : sH} {m m2 mF : mm} {r : Nat → Int32}
theorem P_run (hI : Inv n0 N0 z0 q G m N z) (hq : q ≤ 512) (hS : Sta n0 S0 G) : Pr n0 S0 N0 z0 q Int32.toInt64 120 [] 227 [] (2, eRun) G m N z := by
  obtain ⟨⟨T, L, nx, cnt, hTL, hc⟩, hO⟩ := id hI
  obtain ⟨c1, c2, c3, c4, c5, c6, c7, x1, x2, x3, x4⟩ := hc
  obtain ⟨v, vv, ss, bb, w, hv, hsw⟩ := hS.2.2.2.2
  have hpa := fun d N z => c_parse (n0 := n0) (S0 := S0) (G := G) (N := N) (z := z) (d := d) hv x1 x2
  generalize hX : rdPr vv lnF shF L 9 0 0 (wi (wi m 269 2 (ic 0)) 269 4 (ic 0)) = X at hpa
  have hCm : ∀ x, x ≠ 269 → ri (wi (wi m 269 2 (ic 0)) 269 4 (ic 0)) x = ri m x := fun x hx => by rw [ri_wn _ _ _ hx, ri_wn _ _ _ hx]
  -- the reference's reader, wherever it is called
  have hpr : ∀ mb : mm, ri mb 300 = ri m 300 → ri mb 302 = ri m 302 → ∀ Y, paR mb L = Y → FC 0 (wi (wi m 269 2 (ic 0)) 269 4 (ic 0)) X.2 ∧ FR 0 (paA mb L) Y.1 ∧ ((X.1 = -ic 1 ∧ Y.2.2.2 = (L, false) ∧ ∃ K, 0 < K ∧ (K ≤ 9 ∧ K ≤ L) ∧ ri X.2 269 4 = ic K ∧ ri Y.1 292 21 = ic K ∧ ∀ j, 0 ≤ j → j < K → okC vv j X.2 Y.1 Y.2.2.1) ∨ (∃ e, e ≤ L ∧ X.1 = ic e ∧ Y.2.2.2.1 = e ∧ (Y.2.2.2.2 || decide (e < L)) = true)) := fun mb h1 h2 Y hY => by
    have := pr_eq (t := ri mb 300) x1 (vv := vv) 9 0 0 (wi (wi m 269 2 (ic 0)) 269 4 (ic 0)) (paA mb L) (ri mb 302) 61 rfl (by omega) (by omega) (by omega) (fun y hy => by
      rw [hCm 270 (by decide), h1]
      exact x4 y hy) X hX Y hY
    exact ⟨this.1, this.2.1, this.2.2.2⟩
  have hbgm := bg_all (m := m)
  obtain ⟨hF, hR0, hcase⟩ := hpr (bgM m) (hbgm.1 300 (by decide) (by decide)) (hbgm.1 302 (by decide) (by decide)) _ rfl
  have hX1 : ∀ x, x ≠ 269 → (x < 272 ∨ 290 ≤ x) → ri X.2 x = ri m x := fun x h1 h2 => by rw [hF.1 x h1 (by omega), hCm x h1]
  have hXp : ∀ x, x < 272 ∨ 290 ≤ x → rp X.2 x = rp m x := fun x h => hF.2.2.1 x (by omega)
  have hXl : rl X.2 = rl m := hF.2.2.2.1
  rcases hcase with ⟨d1, d2, K, d3, ⟨d4, d4b⟩, d5, d6, d7⟩ | ⟨e, d1, d2, d3, d4⟩
  · -- a program
    have hm1 : ∀ x, x ≠ 269 → (x < 272 ∨ 290 ≤ x) → ri (wi X.2 269 1 (ic 0)) x = ri m x := fun x h1 h2 => by rw [ri_wn _ _ _ h1, hX1 x h1 h2]
    have hmx : ∀ x, x < 256 → ri (wi X.2 269 1 (ic 0)) x = ri m x ∧ rp (wi X.2 269 1 (ic 0)) x = rp m x ∧ rl (wi X.2 269 1 (ic 0)) x = rl m x := fun x hx => ⟨hm1 x (by omega) (by omega), hXp x (by omega), by rw [rl_wi, hXl]⟩
    have hCo : Core0 T nx cnt (wi X.2 269 1 (ic 0)) := by
      refine ⟨c1.congr (fun x hx => hXp x (by rcases hx with h | h | ⟨y, h, h2⟩ | h <;> omega)), ?_, ?_, ?_, c5.congr (Nat.le_refl _) c1.1 (hm1 293 (by decide) (by decide)) (fun x _ g => hmx x (by omega)), c6.congr (Nat.le_refl _) c1.2.1 (by rw [hm1 0 (by decide) (by decide)]) (by rw [hm1 292 (by decide) (by decide)]) (hm1 295 (by decide) (by decide)) (fun x _ g => hmx x (by omega)), c7.congr (Nat.le_refl _) c1.2.2.1 (hm1 47 (by decide) (by decide)) (by rw [hm1 292 (by decide) (by decide)]) (hm1 296 (by decide) (by decide)) (fun x _ g _ => hmx x g)⟩
      · unfold PI6
        rw [hm1 258 (by decide) (by decide), hm1 297 (by decide) (by decide)]
        exact c2
      · rw [hm1 0 (by decide) (by decide), hm1 292 (by decide) (by decide)]
        exact c3
      · rw [hm1 0 (by decide) (by decide), hm1 292 (by decide) (by decide)]
        exact c4
    have hnx := c7.1
    have hPp := hCo.prep
    have hOp := cpM_out (c := 1) (hCo.1.2.2.1 nx hnx)
    have hpC := hPp.2.2.2.2.1
    have e293 : ri (cpM (wi X.2 269 1 (ic 0)) (49 + 23 * nx) 1) 293 = ri m 293 := by rw [(hOp 293 (by omega)).1, hm1 293 (by decide) (by decide)]
    unfold NI at hpC
    rw [e293] at hpC
    have hcm : ∀ i, i < K → (ri (paR (bgM m) L).1 301 i).toNatClampNeg < 11 ∧ rp (cpM (wi X.2 269 1 (ic 0)) (49 + 23 * nx) 1) (272 + 2 * i) 0 = vv (ri (paR (bgM m) L).1 301 i).toNatClampNeg ∧ AL (ri (paR (bgM m) L).1 301 i).toNatClampNeg i (ri (cpM (wi X.2 269 1 (ic 0)) (49 + 23 * nx) 1) (272 + 2 * i + 1)) (paR (bgM m) L).2.2.1 (tlL (ri (paR (bgM m) L).1 301 i).toNatClampNeg) 0 := fun i hi => by
      obtain ⟨w, k1, k2, k3, k4⟩ := d7 i (Nat.zero_le i) hi
      rw [k3, ic_nat (by omega), cpM_rp, (hOp (272 + 2 * i + 1) (by omega)).1, ri_wn _ _ _ (by omega)]
      exact ⟨k1, k2, k4⟩
    obtain ⟨M, R, ρ, s0, s1, s2, s3⟩ := seq_all (n0 := n0) (S0 := S0) (G := G) (W := fun i => (ri (paR (bgM m) L).1 301 i).toNatClampNeg) hsw d4 (by omega) hpC.2 hPp.1.1 hpC.1 hcm K (Nat.le_refl K)
    have hM256 : ∀ i, i ≤ K → ∀ x, 256 ≤ x → ri (M i) x = ri (wi X.2 269 1 (ic 0)) x ∧ rp (M i) x = rp X.2 x ∧ rl (M i) x = rl m x := fun i hi x hx => by
      have a := (s3 i hi).1 x (by omega)
      have a2 := hOp x (by omega)
      exact ⟨a.1.trans a2.1, a.2.1.trans a2.2.1, (a.2.2.1.trans a2.2.2.1).trans (by rw [rl_wi, hXl])⟩
    have hcnt : ∀ i, i ≤ K → ri (M i) 269 4 = ic K := fun i hi => by
      rw [(hM256 i hi 269 (by decide)).1, ri_ws, upd_n _ _ (by decide)]
      exact d5
    have hff := fun d N z => c_firstFailure (n0 := n0) (S0 := S0) (G := G) (N := N) (z := z) (d := d) d4 M R hcnt (fun i hi => (s2 i hi).1)
    rw [s0] at hff
    have h47X : ri X.2 47 1 = ic nx := by rw [hX1 47 (by decide) (by decide)]; exact c7.2.2.1
    have hJX : JV X.2 (49 + 23 * nx) := (c1.2.2.1 nx hnx).congr (hXp _ (by omega))
    have hJX1 : JV X.2 1 := c1.1.congr (hXp _ (by omega))
    -- the reference's memory behind its reader
    have href : ∀ mb : mm, ri mb 300 = ri m 300 → ri mb 302 = ri m 302 → (∀ j, j < K → ri (paR mb L).1 301 j = ic (ri (paR (bgM m) L).1 301 j).toNatClampNeg) ∧ (paR mb L).2.2.1 = (paR (bgM m) L).2.2.1 ∧ (paR mb L).2.2.2 = (L, false) ∧ ri (paR mb L).1 292 21 = ic K ∧ FR 0 (paA mb L) (paR mb L).1 := fun mb h1 h2 => by
      obtain ⟨_, g1, g2⟩ := hpr mb h1 h2 _ rfl
      rcases g2 with ⟨_, g3, K', _, _, g4, g5, g6⟩ | ⟨e, _, g3, _⟩
      · have hKK : K' = K := by
          rw [d5, ic_eq (by omega) (by omega)] at g4
          exact g4.symm
        subst hKK
        refine ⟨fun j hj => ?_, ?_, g3, g5, g1⟩
        · obtain ⟨w', k1, k2, k3, _⟩ := g6 j (Nat.zero_le j) hj
          obtain ⟨w, q1, q2, q3, _⟩ := d7 j (Nat.zero_le j) hj
          have : w' = w := vv_inj hsw k1 q1 (k2.symm.trans q2)
          rw [k3, q3, ic_nat (by omega), this]
        · have e1 : ∀ mb : mm, ri mb 300 = ri m 300 → ri mb 302 = ri m 302 → (paR mb L).2 = (paF (ri m 300) L 61 m (stR (ri m 300) L m 0 (ri m 302, 0, false)).2.1 (cmS (ri m 300) L 0 (ri m 302, 0, false))).2 := fun mb h1 h2 => by
            unfold paR stR
            rw [h1, h2]
            exact paF_ind _ _ _ _ _
          have e2 := e1 mb h1 h2
          have e3 := e1 (bgM m) (hbgm.1 300 (by decide) (by decide)) (hbgm.1 302 (by decide) (by decide))
          rw [e2, e3]
      · rw [d1] at g3
        have := icM
        rw [g3, ic_lt (by omega) (by omega)] at this
        exact absurd this (by simp)
    have hnew := fun (mc : mm) (hk : ∀ x, (293 ≤ x ∨ x = 292) → ri mc x = ri m x) => href (bgM mc) (by rw [bg_all.1 300 (by decide) (by decide)]; exact hk 300 (by decide)) (by rw [bg_all.1 302 (by decide) (by decide)]; exact hk 302 (by decide))
    have hparse := fun (mc : mm) (hk : ∀ x, (293 ≤ x ∨ x = 292) → ri mc x = ri m x) (d N z : Nat) => m_parse (n0 := n0) (S0 := S0) (G := G) (N := N) (z := z) (d := d) (m := bgM mc) (l := L) (by rw [bg_all.2.1 18 (by decide), hk 292 (by decide)]; exact x3) x1
    have hflag : ∀ mb : mm, (paR mb L).2.2.2 = (L, false) → ((paR mb L).2.2.2.2 || decide ((paR mb L).2.2.2.1 < L)) = false := fun mb h => by
      rw [h]
      simp
    cases hfd : fndA (fun i => R i < ic 0) 0 K with
    | none =>
      have hok := fndA_no K 0 hfd
      have hff2 : ∀ d N z, Mt (n0, S0) (d + 6) 121 [.ref n0] (hp n0 G (cpM (wi X.2 269 1 (ic 0)) (49 + 23 * nx) 1), N, z) = oI n0 G (M K) N z (-ic 1) := fun d N z => by
        rw [hff d N z, hfd]
      have hcl := c_runOk (n0 := n0) (S0 := S0) (G := G) (N := N) (z := z) (d := 32) (m1 := X.2) (m2 := M K) (cnt := K) (fun d N z => by rw [hpa d N z, d1]) hnx h47X hJX hJX1 hff2 (hcnt K (Nat.le_refl K))
      have a47 : ri (M K) 47 = ri m 47 := by
        rw [((s3 K (Nat.le_refl K)).1 47 (by omega)).1, (hOp 47 (by omega)).1, hm1 47 (by decide) (by decide)]
      obtain ⟨f1, f2, f3, f4, f5, f6⟩ := cfM_47 (m := M K) (by rw [a47]; exact c7.2.2.1) (by rw [a47]; exact c7.2.2.2.1) c7.1 c7.2.1
      have hmc : ∀ x, x ≠ 269 → 290 ≤ x → ri (wl (cfM (M K)) 303 0 (ic K).toInt64) x = ri m x := fun x h1 h2 => by
        show ri (cfM (M K)) x = _
        rw [f3 x (by omega), (hM256 K (Nat.le_refl K) x (by omega)).1, hm1 x h1 (by omega)]
      have hmk : ∀ x, (293 ≤ x ∨ x = 292) → ri (wl (cfM (M K)) 303 0 (ic K).toInt64) x = ri m x := fun x hx => hmc x (by omega) (by omega)
      obtain ⟨n1, n2, n3, n4, n5⟩ := hnew _ hmk
      have hpp := hparse _ hmk 34 N z
      rw [hflag _ n3] at hpp
      have hmb := bg_all (m := wl (cfM (M K)) 303 0 (ic K).toInt64)
      generalize hY : paR (bgM (wl (cfM (M K)) 303 0 (ic K).toInt64)) L = Y at n1 n2 n3 n4 n5 hpp
      obtain ⟨t1, t2, t3, t4, t5, t6, t7, t8, t9, t10⟩ := m3_all (s := (Y.2.2.1, Y.2.2.2.1, false)) n5
      generalize hm3 : rsM Y.1 (Y.2.2.1, Y.2.2.2.1, false) = m3 at hpp t1 t2 t3 t4 t5 t6 t7 t8 t9 t10
      have t293 : ri m3 293 = ρ 0 := by rw [t1 293 (by decide) (by decide) (by decide), hmb.1 293 (by decide) (by decide), hmk 293 (by decide), s1]
      have hrf := m_runOk (n0 := n0) (S0 := S0) (G := G) (N := N) (z := z) (d := 34) (m := wl (cfM (M K)) 303 0 (ic K).toInt64) hpp t5 (c := K) (by omega) (M := fun i => wa m3 293 (ρ i)) (by
        show wa m3 293 (ρ 0) = m3
        rw [← t293]
        exact wa_self m3 293) (fun k hk => by
        refine ⟨by show ri (wa m3 293 (ρ k)) 292 21 = _; rw [ri_an _ _ (by decide), t4]; exact n4, ?_⟩
        rcases (s2 k hk).2 with g | g
        · exact absurd g.1 (hok k (Nat.zero_le k) (by omega))
        · have := g.2 (wa m3 293 (ρ k)) (ri_as _ _ _) (by rw [ri_an _ _ (by decide), t7]; exact n1 k hk) (by rw [ri_an _ _ (by decide), t8]; exact n2) 35 N z
          rw [wa_wa] at this
          exact this) (by show ri (wa m3 293 (ρ K)) 292 21 = _; rw [ri_an _ _ (by decide), t4]; exact n4) (dp := cnt) (by show ri (wa m3 293 (ρ K)) 292 7 = _; rw [ri_an _ _ (by decide), t2 7 (by decide) (by decide) (by decide) (by decide) (by decide), hmb.2.1 7 (by decide), hmk 292 (by decide)]; exact c7.2.2.2.2.1) c7.2.1
      obtain ⟨k1, k2, k3, k4, k5, k6⟩ := cmM_all (mq := wa m3 293 (ρ K)) c7.2.1
      have hq1 : ∀ x, x ≠ 292 → x ≠ 293 → x ≠ 294 → x ≠ 296 → x ≠ 301 → x ≠ 302 → ri (cmM (wa m3 293 (ρ K)) cnt) x = ri (cfM (M K)) x := fun x h1 h2 h3 h4 h5 h6 => by
        rw [k3 x h1 h4, ri_an _ _ h2, t1 x h1 h5 h6, hmb.1 x h1 h3]
        rfl
      have hq2 : ∀ i, i ≠ 6 → i ≠ 7 → i ≠ 18 → i ≠ 19 → i ≠ 20 → i ≠ 21 → i ≠ 22 → ri (cmM (wa m3 293 (ρ K)) cnt) 292 i = ri m 292 i := fun i h1 h2 h3 h4 h5 h6 h7 => by
        rw [k2 i h2, ri_an _ _ (by decide), t2 i h3 h4 h5 h6 h7, hmb.2.1 i h1, hmk 292 (by decide)]
      have hq3 : ∀ x, rp (cmM (wa m3 293 (ρ K)) cnt) x = rp (M K) x := fun x => by
        rw [k4.1, rp_wa, t9, hmb.2.2.2.2.1]
        show rp (cfM (M K)) x = _
        rw [f4]
      have hq4 : ∀ x, x < 256 → rl (cmM (wa m3 293 (ρ K)) cnt) x = rl (M K) x := fun x hx => by
        rw [k4.2.1, rl_wa, t10, hmb.2.2.2.2.2.1]
        funext y
        rw [rl_wl, if_neg (by omega), f5]
      have hfar : ∀ x, 269 < x → 290 ≤ x → x ≠ 292 → x ≠ 293 → x ≠ 294 → x ≠ 296 → x ≠ 301 → x ≠ 302 → ri (cmM (wa m3 293 (ρ K)) cnt) x = ri m x := fun x h0 h1 h2 h3 h4 h5 h6 h7 => by
        rw [hq1 x h2 h3 h4 h5 h6 h7, f3 x (by omega), (hM256 K (Nat.le_refl K) x (by omega)).1, hm1 x (by omega) (by omega)]
      have hrow : ri (wa m3 293 (ρ K)) 296 = ri (wi X.2 269 1 (ic 0)) 296 := by
        rw [ri_an _ _ (by decide), t1 296 (by decide) (by decide) (by decide), hmb.1 296 (by decide) (by decide), hmk 296 (by decide), hm1 296 (by decide) (by decide)]
      have hrow2 : ∀ x, x < 140 → ri (wa m3 293 (ρ K)) 294 x = ri (wi X.2 269 1 (ic 0)) 293 x := fun x hx => by
        rw [ri_an _ _ (by decide), t1 294 (by decide) (by decide) (by decide), hmb.2.2.2.1 x hx, hmk 293 (by decide), hm1 293 (by decide) (by decide)]
      have hh : ∀ i, hr (wa m3 293 (ρ K)) i = hr (wi X.2 269 1 (ic 0)) i := fun i => by unfold hr; rw [hrow]
      obtain ⟨z1, z2, z3, z4⟩ := s3 K (Nat.le_refl K)
      have h269 : ri (cmM (wa m3 293 (ρ K)) cnt) 269 1 = ic 0 := by
        rw [hq1 269 (by decide) (by decide) (by decide) (by decide) (by decide) (by decide), f3 269 (by decide), (hM256 K (Nat.le_refl K) 269 (by decide)).1, ri_ws, upd_s]
      have h258 : ri (cmM (wa m3 293 (ρ K)) cnt) 258 = ri m 258 := by
        rw [hq1 258 (by decide) (by decide) (by decide) (by decide) (by decide) (by decide), f3 258 (by decide), (hM256 K (Nat.le_refl K) 258 (by decide)).1, hm1 258 (by decide) (by decide)]
      refine Or.inr ⟨G, _, N, z, ic K, _, hcl, fun _ _ => rfl, hrf, ?_, ?_, Inv_up hO ⟨T + K, 0, nxN nx, cnN cnt, by omega, ?_⟩ (hfar 290 (by decide) (by decide) (by decide) (by decide) (by decide) (by decide) (by decide) (by decide)) ?_ (hq2 14 (by decide) (by decide) (by decide) (by decide) (by decide) (by decide) (by decide)) (hfar 299 (by decide) (by decide) (by decide) (by decide) (by decide) (by decide) (by decide) (by decide)) (Nat.le_refl _) (by omega) (by omega)⟩
      · rw [k2 6 (by decide), ri_an _ _ (by decide), t2 6 (by decide) (by decide) (by decide) (by decide) (by decide), hmb.2.2.1]
      · rw [k4.2.1, rl_wa, t10, hmb.2.2.2.2.2.1, rl_wl, if_pos ⟨rfl, rfl⟩]
      · refine hCo.done (by omega) z1 z2 z3 z4 (fun x h1 h2 => ?_) (fun x _ => hq3 x) hq4 ?_ ?_ ?_ ?_ (fun i hi => ?_) k1 ⟨by decide, h269, ?_, fun y hy => absurd hy (Nat.not_lt_zero y)⟩ (fun h => ?_) (fun h => ?_)
        · rw [hq1 x (by omega) (by omega) (by omega) (by omega) (by omega) (by omega), f3 x h2]
        · rw [hq1 47 (by omega) (by omega) (by omega) (by omega) (by omega) (by omega)]
          exact ⟨f1, f2⟩
        · rw [k3 293 (by decide) (by decide), ri_as]
        · unfold PI6
          rw [h258, hfar 297 (by decide) (by decide) (by decide) (by decide) (by decide) (by decide) (by decide) (by decide)]
          exact c2
        · rw [hfar 295 (by decide) (by decide) (by decide) (by decide) (by decide) (by decide) (by decide) (by decide), hm1 295 (by decide) (by decide)]
        · rw [hq2 i (by omega) (by omega) (by omega) (by omega) (by omega) (by omega) (by omega), hm1 292 (by decide) (by decide)]
        · rw [k2 18 (by decide), ri_an _ _ (by decide), t3]
        · have := k5 h
          exact ⟨fun i hi x hx => by rw [this.1 i hi x hx, hh], fun x hx => by rw [this.2 x hx, hrow2 x hx]⟩
        · have := k6 h
          exact ⟨fun i hi x hx => by rw [this.1 i hi x hx, hh], fun x hx => by rw [this.2 x hx, hrow2 x hx]⟩
      · rw [hq3, (hM256 K (Nat.le_refl K) 290 (by decide)).2.1, hXp 290 (by decide)]
    | some f =>
      obtain ⟨g0, g1, g2⟩ := fndA_lt _ _ _ hfd
      have hbef := fndA_first K 0 f hfd
      have hfK : f < K := by omega
      have hff2 : ∀ d N z, Mt (n0, S0) (d + 6) 121 [.ref n0] (hp n0 G (cpM (wi X.2 269 1 (ic 0)) (49 + 23 * nx) 1), N, z) = oI n0 G (M (f + 1)) N z (ic f) := fun d N z => by
        rw [hff d N z, hfd]
      obtain ⟨z1, z2, z3, z4⟩ := s3 (f + 1) (by omega)
      have hnew2 := hPp.1.2.2.1 nx hnx
      have zrow := z1 (49 + 23 * nx + 1) (by omega)
      have hJr : JV (M (f + 1)) (49 + 23 * nx) := hnew2.congr zrow.2.1
      have h47M : ri (M (f + 1)) 47 = ri m 47 := by
        rw [(z1 47 (by omega)).1, (hOp 47 (by omega)).1, hm1 47 (by decide) (by decide)]
      have hcl := c_runFail (n0 := n0) (S0 := S0) (G := G) (N := N) (z := z) (d := 32) (m1 := X.2) (m2 := M (f + 1)) (f := f) (fun d N z => by rw [hpa d N z, d1]) hnx h47X hJX hJX1 hff2 (by omega) (by rw [h47M]; exact c7.2.2.1) hJr z3
      have hE1 := cpM_out (c := 49 + 23 * nx) z3
      have hmc0 : ∀ x, x ≠ 0 → 24 ≤ x → x ≠ 269 → x < 272 ∨ 290 ≤ x → (x < 49 + 23 * nx ∨ 49 + 23 * nx + 23 ≤ x) → ri (wi (cpM (M (f + 1)) 1 (49 + 23 * nx)) 0 8 (ic f)) x = ri m x := fun x h0 h1 h2 h3 h4 => by
        rw [ri_wn _ _ _ h0, (hE1 x (by omega)).1, (z1 x (by omega)).1, (hOp x h4).1, hm1 x h2 h3]
      have hmcp : ∀ x, x < 272 ∨ 290 ≤ x → x < 1 ∨ 24 ≤ x → rp (wi (cpM (M (f + 1)) 1 (49 + 23 * nx)) 0 8 (ic f)) x = rp m x := fun x h3 h4 => by
        rw [rp_wi, (hE1 x (by omega)).2.1, (z1 x (by omega)).2.1, cpM_rp]
        exact hXp x h3
      have hmk : ∀ x, (293 ≤ x ∨ x = 292) → ri (wi (cpM (M (f + 1)) 1 (49 + 23 * nx)) 0 8 (ic f)) x = ri m x := fun x hx => hmc0 x (by omega) (by omega) (by omega) (by omega) (by omega)
      obtain ⟨n1, n2, n3, n4, n5⟩ := hnew _ hmk
      have hpp := hparse _ hmk 34 (N + 1) (z + 6)
      rw [hflag _ n3] at hpp
      have hmb := bg_all (m := wi (cpM (M (f + 1)) 1 (49 + 23 * nx)) 0 8 (ic f))
      have hCr : CL (M (f + 1)) (49 + 23 * nx) (ri m 293) := by
        have h1 := cpM_CL (hCo.1.2.2.1 nx hnx) (hCo.2.2.2.2.1.2) (hCo.2.2.2.2.1.1.n12)
        rw [hm1 293 (by decide) (by decide)] at h1
        exact h1.congr c5.1.n12 hnew2 (fun x a1 a2 => ⟨(z1 x (by omega)).1, (z1 x (by omega)).2.1, (z1 x (by omega)).2.2.1⟩)
      have hC1 := cpM_CL z3 hCr c5.1.n12
      generalize hmc : wi (cpM (M (f + 1)) 1 (49 + 23 * nx)) 0 8 (ic f) = mc at hcl hmc0 hmcp hmk n1 n2 n3 n4 n5 hpp hmb
      have hmc1 : ∀ x, 1 ≤ x → x < 24 → ri mc x = ri (cpM (M (f + 1)) 1 (49 + 23 * nx)) x ∧ rp mc x = rp (cpM (M (f + 1)) 1 (49 + 23 * nx)) x ∧ rl mc x = rl (cpM (M (f + 1)) 1 (49 + 23 * nx)) x := fun x h1 h2 => by
        rw [← hmc]
        exact ⟨ri_wn _ _ _ (by omega), rfl, rfl⟩
      have hmcl : ∀ x, x < 1 ∨ 24 ≤ x → (x < 49 + 23 * nx ∨ 49 + 23 * nx + 23 ≤ x) → rl mc x = rl m x := fun x h1 h2 => by
        rw [← hmc, rl_wi, (hE1 x (by omega)).2.2.1, (z1 x h1).2.2.1, (hOp x h2).2.2.1, rl_wi, hXl]
      have hmc00 : ∀ i, i ≠ 8 → ri mc 0 i = ri m 0 i := fun i hi => by
        rw [← hmc, ri_ws, upd_n _ _ hi, (hE1 0 (by omega)).1, (z1 0 (by omega)).1, (hOp 0 (by omega)).1, hm1 0 (by decide) (by decide)]
      have hmc08 : ri mc 0 8 = ic f := by rw [← hmc, ri_ws, upd_s]
      have hmc269 : ri mc 269 1 = ic 0 := by
        rw [← hmc, ri_wn _ _ _ (by decide), (hE1 269 (by omega)).1, (hM256 (f + 1) (by omega) 269 (by decide)).1, ri_ws, upd_s]
      generalize hY : paR (bgM mc) L = Y at n1 n2 n3 n4 n5 hpp
      obtain ⟨t1, t2, t3, t4, t5, t6, t7, t8, t9, t10⟩ := m3_all (s := (Y.2.2.1, Y.2.2.2.1, false)) n5
      generalize hm3 : rsM Y.1 (Y.2.2.1, Y.2.2.2.1, false) = m3 at hpp t1 t2 t3 t4 t5 t6 t7 t8 t9 t10
      have t293 : ri m3 293 = ρ 0 := by rw [t1 293 (by decide) (by decide) (by decide), hmb.1 293 (by decide) (by decide), hmk 293 (by decide), s1]
      have hrf := m_runFail (n0 := n0) (S0 := S0) (G := G) (N := N + 1) (z := z + 6) (d := 34) (m := mc) hpp t5 (c := K) (by omega) (M := fun i => wa m3 293 (ρ i)) (by
        show wa m3 293 (ρ 0) = m3
        rw [← t293]
        exact wa_self m3 293) hfK (fun k hk => by
        refine ⟨by show ri (wa m3 293 (ρ k)) 292 21 = _; rw [ri_an _ _ (by decide), t4]; exact n4, ?_⟩
        rcases (s2 k (by omega)).2 with g | g
        · exact absurd g.1 (hbef k (Nat.zero_le k) hk)
        · have := g.2 (wa m3 293 (ρ k)) (ri_as _ _ _) (by rw [ri_an _ _ (by decide), t7]; exact n1 k (by omega)) (by rw [ri_an _ _ (by decide), t8]; exact n2) 35 (N + 1) (z + 6)
          rw [wa_wa] at this
          exact this) (by show ri (wa m3 293 (ρ f)) 292 21 = _; rw [ri_an _ _ (by decide), t4]; exact n4) (by
        rcases (s2 f hfK).2 with g | g
        · exact g.2.2 (wa m3 293 (ρ f)) (ri_as _ _ _) (by rw [ri_an _ _ (by decide), t7]; exact n1 f hfK) (by rw [ri_an _ _ (by decide), t8]; exact n2) 35 (N + 1) (z + 6)
        · exact absurd g2 g.1)
      generalize hFe : wi (wi (wa (wa m3 293 (ρ f)) 293 (cpR 140 0 0 (ri (wa m3 293 (ρ f)) 294) (ri (wa m3 293 (ρ f)) 293))) 292 9 (ic f)) 292 6 (ic 2) = mF at hrf
      have hq1 : ∀ x, x ≠ 292 → x ≠ 293 → x ≠ 294 → x ≠ 301 → x ≠ 302 → ri mF x = ri mc x := fun x h1 h2 h3 h5 h6 => by
        rw [← hFe, ri_wn _ _ _ h1, ri_wn _ _ _ h1, ri_an _ _ h2, ri_an _ _ h2, t1 x h1 h5 h6, hmb.1 x h1 h3]
      have hq2 : ∀ i, i ≠ 6 → i ≠ 9 → i ≠ 18 → i ≠ 19 → i ≠ 20 → i ≠ 21 → i ≠ 22 → ri mF 292 i = ri m 292 i := fun i h1 h2 h3 h4 h5 h6 h7 => by
        rw [← hFe, ri_ws, upd_n _ _ h1, ri_ws, upd_n _ _ h2, ri_an _ _ (by decide), ri_an _ _ (by decide), t2 i h3 h4 h5 h6 h7, hmb.2.1 i h1, hmk 292 (by decide)]
      have hq3 : ∀ x, rp mF x = rp mc x := fun x => by
        rw [← hFe]
        show rp m3 x = _
        rw [t9, hmb.2.2.2.2.1]
      have hq4 : ∀ x, rl mF x = rl mc x := fun x => by
        rw [← hFe]
        show rl m3 x = _
        rw [t10, hmb.2.2.2.2.2.1]
      have hrow : ∀ x, x < 140 → ri mF 293 x = ri m 293 x := fun x hx => by
        rw [← hFe, ri_wn _ _ _ (by decide), ri_wn _ _ _ (by decide), ri_as]
        unfold cpR
        rw [if_pos (by omega), show 0 + (x - 0) = x by omega, ri_an _ _ (by decide), t1 294 (by decide) (by decide) (by decide), hmb.2.2.2.1 x hx, hmk 293 (by decide)]
      have hs : ∀ x, x ≠ 0 → 24 ≤ x → x ≠ 269 → x < 272 ∨ 290 ≤ x → (x < 49 + 23 * nx ∨ 49 + 23 * nx + 23 ≤ x) → x ≠ 292 → x ≠ 293 → x ≠ 294 → x ≠ 301 → x ≠ 302 → ri mF x = ri m x := fun x a1 a2 a3 a4 a5 a6 a7 a8 a9 a10 => by
        rw [hq1 x a6 a7 a8 a9 a10, hmc0 x a1 a2 a3 a4 a5]
      have hx3 : ∀ x, 24 ≤ x → x < 256 → (x < 49 + 23 * nx ∨ 49 + 23 * nx + 23 ≤ x) → ri mF x = ri m x ∧ rp mF x = rp m x ∧ rl mF x = rl m x := fun x h1 h2 h3 => ⟨hs x (by omega) h1 (by omega) (by omega) h3 (by omega) (by omega) (by omega) (by omega) (by omega), by rw [hq3, hmcp x (by omega) (by omega)], by rw [hq4, hmcl x (by omega) h3]⟩
      have hrp2 : rp mF 2 = rp (M (f + 1)) 2 := by
        rw [hq3, (hmc1 2 (by omega) (by omega)).2.1, cpM_rp]
      refine Or.inl ⟨2, mc, mF, ic 0, by decide, by decide, hcl, hrf, by rw [← hFe, ri_ws, upd_s], Inv_up hO ⟨T, 0, nx, cnt, by omega, ⟨z3.congr hrp2, c1.2.1.congr (by rw [hq3, hmcp 25 (by decide) (by decide)]), fun y hy => (c1.2.2.1 y hy).congr (by rw [hq3, hmcp (49 + 23 * y + 1) (by omega) (by omega)]), ?_⟩, ⟨by rw [hs 258 (by decide) (by decide) (by decide) (by decide) (by omega) (by decide) (by decide) (by decide) (by decide) (by decide)]; exact c2.1, by rw [hs 297 (by decide) (by decide) (by decide) (by decide) (by omega) (by decide) (by decide) (by decide) (by decide) (by decide)]; exact c2.2⟩, ?_, ?_, ⟨RW_congr hrow c5.1, ?_⟩, c6.congr (Nat.le_refl _) c1.2.1 ?_ (hq2 12 (by decide) (by decide) (by decide) (by decide) (by decide) (by decide) (by decide)) (hs 295 (by decide) (by decide) (by decide) (by decide) (by omega) (by decide) (by decide) (by decide) (by decide) (by decide)) (fun x h1 h2 => hx3 x h1 (by omega) (by omega)), c7.congr (Nat.le_refl _) c1.2.2.1 (hs 47 (by decide) (by decide) (by decide) (by decide) (by omega) (by decide) (by decide) (by decide) (by decide) (by decide)) (hq2 7 (by decide) (by decide) (by decide) (by decide) (by decide) (by decide) (by decide)) (hs 296 (by decide) (by decide) (by decide) (by decide) (by omega) (by decide) (by decide) (by decide) (by decide) (by decide)) (fun x h1 h2 h3 => hx3 x (by omega) h2 h3), ⟨by decide, by rw [hq1 269 (by decide) (by decide) (by decide) (by decide) (by decide)]; exact hmc269, ?_, fun y hy => absurd hy (Nat.not_lt_zero y)⟩⟩ (hs 290 (by decide) (by decide) (by decide) (by decide) (by omega) (by decide) (by decide) (by decide) (by decide) (by decide)) (by rw [hq3, hmcp 290 (by decide) (by decide)]) (hq2 14 (by decide) (by decide) (by decide) (by decide) (by decide) (by decide) (by decide)) (hs 299 (by decide) (by decide) (by decide) (by decide) (by omega) (by decide) (by decide) (by decide) (by decide) (by decide)) (by omega) (by omega) (by omega)⟩
      · have := c1.2.2.2
        unfold JP at this ⊢
        rw [hq3, hmcp 257 (by decide) (by decide)]
        exact this
      · rw [hq1 0 (by decide) (by decide) (by decide) (by decide) (by decide), hmc00 7 (by decide), hq2 8 (by decide) (by decide) (by decide) (by decide) (by decide) (by decide) (by decide)]
        exact c3
      · rw [hq1 0 (by decide) (by decide) (by decide) (by decide) (by decide), hmc08, ← hFe, ri_ws, upd_n _ _ (by decide), ri_ws, upd_s]
        exact ⟨rfl, Or.inr ⟨f, by omega, rfl⟩⟩
      · refine CL.row c5.1.n12 hrow (hC1.congr c5.1.n12 (JV_cpM z3) (fun x h1 h2 => ⟨?_, ?_, ?_⟩))
        · rw [hq1 x (by omega) (by omega) (by omega) (by omega) (by omega), (hmc1 x (by omega) (by omega)).1]
        · rw [hq3, (hmc1 x (by omega) (by omega)).2.1]
        · rw [hq4, (hmc1 x (by omega) (by omega)).2.2]
      · rw [hq1 0 (by decide) (by decide) (by decide) (by decide) (by decide), hmc00 2 (by decide)]
      · rw [← hFe, ri_ws, upd_n _ _ (by decide), ri_ws, upd_n _ _ (by decide), ri_an _ _ (by decide), ri_an _ _ (by decide), t3]
  · -- no program
    have hcl := c_runErr (n0 := n0) (S0 := S0) (G := G) (N := N) (z := z) (d := 32) (m := m) (m1 := X.2) (e := e) (fun d N z => by rw [hpa d N z, d2]) (by omega)
    have hmc0 : ∀ x, x ≠ 0 → x ≠ 269 → x < 272 ∨ 290 ≤ x → ri (wi (wi X.2 269 1 (ic 0)) 0 7 (ic e)) x = ri m x := fun x h1 h2 h3 => by rw [ri_wn _ _ _ h1, ri_wn _ _ _ h2, hX1 x h2 h3]
    have hmc00 : ∀ i, i ≠ 7 → ri (wi (wi X.2 269 1 (ic 0)) 0 7 (ic e)) 0 i = ri m 0 i := fun i hi => by rw [ri_ws, upd_n _ _ hi, ri_wn _ _ _ (by decide), hX1 0 (by decide) (by decide)]
    have hmc07 : ri (wi (wi X.2 269 1 (ic 0)) 0 7 (ic e)) 0 7 = ic e := by rw [ri_ws, upd_s]
    have hmc269 : ri (wi (wi X.2 269 1 (ic 0)) 0 7 (ic e)) 269 1 = ic 0 := by rw [ri_wn _ _ _ (by decide), ri_ws, upd_s]
    have hmcp : rp (wi (wi X.2 269 1 (ic 0)) 0 7 (ic e)) = rp X.2 := rfl
    have hmcl : rl (wi (wi X.2 269 1 (ic 0)) 0 7 (ic e)) = rl m := by
      rw [rl_wi, rl_wi, hXl]
    generalize hmc : wi (wi X.2 269 1 (ic 0)) 0 7 (ic e) = mc at hcl hmc0 hmc00 hmc07 hmc269 hmcp hmcl
    have hmb := bg_all (m := mc)
    obtain ⟨_, n5, hcase⟩ := hpr (bgM mc) (by rw [hmb.1 300 (by decide) (by decide), hmc0 300 (by decide) (by decide) (by decide)]) (by rw [hmb.1 302 (by decide) (by decide), hmc0 302 (by decide) (by decide) (by decide)]) _ rfl
    have hcase2 : (paR (bgM mc) L).2.2.2.1 = e ∧ ((paR (bgM mc) L).2.2.2.2 || decide ((paR (bgM mc) L).2.2.2.1 < L)) = true := by
      rcases hcase with ⟨h1, _⟩ | ⟨e', h1, h2, h3, h4⟩
      · rw [d2] at h1
        have := icM
        rw [← h1, ic_lt (by omega) (by omega)] at this
        exact absurd this (by simp)
      · have : e' = e := by
          rw [d2, ic_eq (by omega) (by omega)] at h2
          exact h2.symm
        rw [h3, ← this]
        exact ⟨rfl, h4⟩
    have hpp := m_parse (n0 := n0) (S0 := S0) (G := G) (N := N + 1) (z := z + 6) (d := 34) (m := bgM mc) (l := L) (by rw [hmb.2.1 18 (by decide), hmc0 292 (by decide) (by decide) (by decide)]; exact x3) x1
    rw [hcase2.2, hcase2.1] at hpp
    generalize hY : paR (bgM mc) L = Y at n5 hpp
    obtain ⟨t1, t2, t3, t4, t5, t6, t7, t8, t9, t10⟩ := m3_all (s := (Y.2.2.1, e, true)) n5
    have hrf := m_runWrong (n0 := n0) (S0 := S0) (G := G) (N := N + 1) (z := z + 6) (d := 34) (m := mc) hpp t5 t6
    generalize hm3 : rsM Y.1 (Y.2.2.1, e, true) = m3 at hrf t1 t2 t3 t4 t5 t6 t7 t8 t9 t10
    dsimp only at hrf
    generalize hFe : wi (wi m3 292 8 (ic e)) 292 6 (ic 1) = mF at hrf
    have hq1 : ∀ x, x ≠ 292 → x ≠ 294 → x ≠ 301 → x ≠ 302 → ri mF x = ri mc x := fun x h1 h3 h5 h6 => by
      rw [← hFe, ri_wn _ _ _ h1, ri_wn _ _ _ h1, t1 x h1 h5 h6, hmb.1 x h1 h3]
    have hq2 : ∀ i, i ≠ 6 → i ≠ 8 → i ≠ 18 → i ≠ 19 → i ≠ 20 → i ≠ 21 → i ≠ 22 → ri mF 292 i = ri m 292 i := fun i h1 h2 h3 h4 h5 h6 h7 => by
      rw [← hFe, ri_ws, upd_n _ _ h1, ri_ws, upd_n _ _ h2, t2 i h3 h4 h5 h6 h7, hmb.2.1 i h1, hmc0 292 (by decide) (by decide) (by decide)]
    have hq3 : ∀ x, x < 272 ∨ 290 ≤ x → rp mF x = rp m x := fun x hx => by
      rw [← hFe]
      show rp m3 x = _
      rw [t9, hmb.2.2.2.2.1, hmcp, hXp x hx]
    have hq4 : ∀ x, rl mF x = rl m x := fun x => by
      rw [← hFe]
      show rl m3 x = _
      rw [t10, hmb.2.2.2.2.2.1, hmcl]
    have hs : ∀ x, x ≠ 0 → x ≠ 269 → x < 272 ∨ 290 ≤ x → x ≠ 292 → x ≠ 294 → x ≠ 301 → x ≠ 302 → ri mF x = ri m x := fun x a1 a2 a3 a4 a5 a6 a7 => by rw [hq1 x a4 a5 a6 a7, hmc0 x a1 a2 a3]
    have hx3 : ∀ x, 1 ≤ x → x < 256 → ri mF x = ri m x ∧ rp mF x = rp m x ∧ rl mF x = rl m x := fun x h1 h2 => ⟨hs x (by omega) (by omega) (by omega) (by omega) (by omega) (by omega) (by omega), hq3 x (by omega), hq4 x⟩
    refine Or.inl ⟨1, mc, mF, ic 0, by decide, by decide, hcl, hrf, by rw [← hFe, ri_ws, upd_s], Inv_up hO ⟨T, 0, nx, cnt, by omega, c1.congr (fun x hx => hq3 x (by rcases hx with h | h | ⟨y, h, h2⟩ | h <;> omega)), ⟨by rw [hs 258 (by decide) (by decide) (by decide) (by decide) (by decide) (by decide) (by decide)]; exact c2.1, by rw [hs 297 (by decide) (by decide) (by decide) (by decide) (by decide) (by decide) (by decide)]; exact c2.2⟩, ?_, ?_, c5.congr (Nat.le_refl _) c1.1 (hs 293 (by decide) (by decide) (by decide) (by decide) (by decide) (by decide) (by decide)) (fun x h1 h2 => hx3 x h1 (by omega)), c6.congr (Nat.le_refl _) c1.2.1 ?_ (hq2 12 (by decide) (by decide) (by decide) (by decide) (by decide) (by decide) (by decide)) (hs 295 (by decide) (by decide) (by decide) (by decide) (by decide) (by decide) (by decide)) (fun x h1 h2 => hx3 x (by omega) (by omega)), c7.congr (Nat.le_refl _) c1.2.2.1 (hs 47 (by decide) (by decide) (by decide) (by decide) (by decide) (by decide) (by decide)) (hq2 7 (by decide) (by decide) (by decide) (by decide) (by decide) (by decide) (by decide)) (hs 296 (by decide) (by decide) (by decide) (by decide) (by decide) (by decide) (by decide)) (fun x h1 h2 _ => hx3 x (by omega) h2), ⟨by decide, by rw [hq1 269 (by decide) (by decide) (by decide) (by decide)]; exact hmc269, ?_, fun y hy => absurd hy (Nat.not_lt_zero y)⟩⟩ (hs 290 (by decide) (by decide) (by decide) (by decide) (by decide) (by decide) (by decide)) (hq3 290 (by decide)) (hq2 14 (by decide) (by decide) (by decide) (by decide) (by decide) (by decide) (by decide)) (hs 299 (by decide) (by decide) (by decide) (by decide) (by decide) (by decide) (by decide)) (by omega) (by omega) (by omega)⟩
    · rw [hq1 0 (by decide) (by decide) (by decide) (by decide), hmc07, ← hFe, ri_ws, upd_n _ _ (by decide), ri_ws, upd_s]
      exact ⟨rfl, Or.inr ⟨e, by omega, rfl⟩⟩
    · rw [hq1 0 (by decide) (by decide) (by decide) (by decide), hmc00 8 (by decide), hq2 9 (by decide) (by decide) (by decide) (by decide) (by decide) (by decide) (by decide)]
      exact c4
    · rw [hq1 0 (by decide) (by decide) (by decide) (by decide), hmc00 2 (by decide)]
    · rw [← hFe, ri_ws, upd_n _ _ (by decide), ri_ws, upd_n _ _ (by decide), t3]
end P21b
