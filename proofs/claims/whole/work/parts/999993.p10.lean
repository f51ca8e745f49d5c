/-! the plans: class and reference find the same; expanded by px.py out of p10.src -/
theorem cntF_up (P : Nat → Prop) [DecidablePred P] {i n : Nat} (h : i ≤ n) : cntF P i ≤ cntF P n := by
  induction h with
  | refl => exact Nat.le_refl _
  | step _ ih => exact Nat.le_trans ih (Nat.le_add_right _ _)
theorem lo_ml {J K : Nat → Nat → Int32} {x y c : Int32} {C : Nat} (hx : isN x 20) (hy : isN y 20) (hc : isN c C) : ∀ n, C + 44 * n < 2147483648 → (∀ i, i < n → (J i 1 = K i 1 ∧ J i 2 = K i 2 ∧ J i 5 = K i 5 ∧ J i 6 = K i 6) ∧ isN (K i 1) 20 ∧ isN (K i 2) 20 ∧ isN (K i 5) 4 ∧ isN (K i 6) 199) → loF J x y c n = mlF K x y c n ∧ isN (mlF K x y c n).1 20 ∧ isN (mlF K x y c n).2.1 20 ∧ isN (mlF K x y c n).2.2.1 (C + 44 * n) := by
  intro n
  induction n with
  | zero => intro _ _; exact ⟨rfl, hx, hy, hc⟩
  | succ n ih =>
    intro hC h
    obtain ⟨e, h1, h2, h3⟩ := ih (by omega) (fun i hi => h i (by omega))
    obtain ⟨⟨j1, j2, j5, j6⟩, k1, k2, k5, k6⟩ := h n (by omega)
    have hF : fnJ (J n) (mlF K x y c n).1 (mlF K x y c n).2.1 (mlF K x y c n).2.2.1 = (mlF K x y c n).2.2.1 + (apF (mlF K x y c n).1 (K n 1) + apF (mlF K x y c n).2.1 (K n 2) + K n 5) := by
      unfold fnJ
      rw [j1, j2, j5, ab_ap h1 k1, ab_ap h2 k2, Int32.add_assoc]
    have hN : isN ((mlF K x y c n).2.2.1 + (apF (mlF K x y c n).1 (K n 1) + apF (mlF K x y c n).2.1 (K n 2) + K n 5)) (C + 44 * (n + 1)) := (h3.add (((ap_b h1 k1).add (ap_b h2 k2)).add k5)).mono (by omega)
    have hq : mlF K x y c (n + 1) = (K n 1, K n 2, (mlF K x y c n).2.2.1 + (apF (mlF K x y c n).1 (K n 1) + apF (mlF K x y c n).2.1 (K n 2) + K n 5), (mlF K x y c n).2.2.2 + (if K n 6 < (mlF K x y c n).2.2.1 + (apF (mlF K x y c n).1 (K n 1) + apF (mlF K x y c n).2.1 (K n 2) + K n 5) then (mlF K x y c n).2.2.1 + (apF (mlF K x y c n).1 (K n 1) + apF (mlF K x y c n).2.1 (K n 2) + K n 5) - K n 6 else ic 0)) := rfl
    have hj : loF J x y c (n + 1) = (J n 1, J n 2, fnJ (J n) (loF J x y c n).1 (loF J x y c n).2.1 (loF J x y c n).2.2.1, (loF J x y c n).2.2.2 + ltJ (J n) (fnJ (J n) (loF J x y c n).1 (loF J x y c n).2.1 (loF J x y c n).2.2.1)) := rfl
    have hN2 := hN
    obtain ⟨F, hF1, hF2⟩ := hN
    obtain ⟨U, hU1, hU2⟩ := id k6
    refine ⟨?_, ?_, ?_, ?_⟩
    · rw [hj, hq, e, hF, j1, j2]
      unfold ltJ
      rw [hF2, j6, hU2, lat_eq (by omega) (by omega)]
    · rw [hq]; exact k1
    · rw [hq]; exact k2
    · rw [hq]; exact hN2
theorem mlF_congr {J K : Nat → Nat → Int32} {x y c : Int32} : ∀ n, (∀ i, i < n → J i = K i) → mlF J x y c n = mlF K x y c n := by
  intro n
  induction n with
  | zero => intro _; rfl
  | succ n ih =>
    intro h
    have h1 := ih (fun i hi => h i (by omega))
    have h2 := h n (by omega)
    show (J n 1, J n 2, _, _) = (K n 1, K n 2, _, _)
    rw [h1, h2]
section P10
variable {T : Nat} {m : mm} {r : Nat → Int32}
theorem co_eq (hC : CL m 1 r) (hW : RW T r) (hP : JP m) {w : Nat} (hw : w < 3) {U0 : Nat → Nat} : ∀ i, i ≤ nO r → (coM m (ic w) i).2 = (coU r w U0 i).2 ∧ (coU r w U0 i).2 = cntF (fun i => r (42 + 8 * i + 7) = ic (w + 1)) i ∧ (∀ q, q < (coU r w U0 i).2 → (coU r w U0 i).1 q < i ∧ ∀ k, k < 8 → ri (coM m (ic w) i).1 (rp m 257 q) k = jt k (r (42 + 8 * (coU r w U0 i).1 q + k))) ∧ ∀ p q, p < q → q < (coU r w U0 i).2 → (coU r w U0 i).1 p < (coU r w U0 i).1 q := by
  have h6 : ∀ i, i ≤ nO r → cntF (fun i => r (42 + 8 * i + 7) = ic (w + 1)) i ≤ 6 := fun i hi => by
    obtain ⟨n2, nx, late, work, ⟨b1, b2, b3, b4, b5, b6, b7, b8, b9⟩, _, _, _, _, aJ⟩ := hW
    rw [nO_of b5 b1] at hi
    exact Nat.le_trans (cntF_up _ hi) (aJ.2.2 w hw)
  intro i
  induction i with
  | zero => intro _; exact ⟨rfl, rfl, fun q hq => absurd hq (Nat.not_lt_zero _), fun p q _ hq => absurd hq (Nat.not_lt_zero _)⟩
  | succ i ih =>
    intro hi
    obtain ⟨h1, h2, h3, h4⟩ := ih (by omega)
    have h6' := h6 (i + 1) hi
    have hc1 : cntF (fun i => r (42 + 8 * i + 7) = ic (w + 1)) (i + 1) = cntF (fun i => r (42 + 8 * i + 7) = ic (w + 1)) i + (if r (42 + 8 * i + 7) = ic (w + 1) then 1 else 0) := rfl
    have hj := hC.2.2.2.2 i (by omega)
    have hg : (ri m (rp m 2 i) 7 = ic w) = (r (42 + 8 * i + 7) = ic (w + 1)) := by
      have := hj 7 (by decide)
      rw [jt_7] at this
      rw [← ic_add]
      rw [← sub1]
      exact congrArg (· = ic w) this
    unfold coM coU rwJ
    by_cases e : r (42 + 8 * i + 7) = ic (w + 1)
    · rw [hc1, if_pos e] at h6' ⊢
      have hlt : (coM m (ic w) i).2 < 6 := by omega
      rw [if_pos ⟨hg ▸ e, hlt⟩, if_pos e]
      dsimp only
      refine ⟨by omega, by omega, fun q hq => ?_, fun p q hpq hq => ?_⟩
      · rw [h1]
        generalize hcc : (coU r w U0 i).2 = cc at *
        by_cases eq : q = cc
        · subst eq
          refine ⟨by unfold updN; rw [if_pos rfl]; omega, fun k hk => ?_⟩
          have hb := hP.1 q (by omega)
          rw [ri_wn _ _ _ (by omega), ri_as]
          unfold cpf updN
          rw [if_pos hk, if_pos rfl]
          exact hj k hk
        · have hq' : q < cc := by omega
          have hb := hP.1 q (by omega)
          refine ⟨by unfold updN; rw [if_neg eq]; have := (h3 q hq').1; omega, fun k hk => ?_⟩
          rw [ri_wn _ _ _ (by omega), ri_an _ _ (fun z => eq (hP.2 q (by omega) cc (by omega) z))]
          unfold updN
          rw [if_neg eq]
          exact (h3 q hq').2 k hk
      · unfold updN
        rw [if_neg (by omega)]
        by_cases eq : q = (coU r w U0 i).2
        · rw [if_pos eq]
          exact (h3 p (by omega)).1
        · rw [if_neg eq]
          exact h4 p q hpq (by omega)
    · rw [hc1, if_neg e] at h6' ⊢
      rw [if_neg (fun z => e (hg ▸ z.1)), if_neg e]
      exact ⟨h1, by omega, fun q hq => ⟨Nat.lt_succ_of_lt (h3 q hq).1, (h3 q hq).2⟩, h4⟩
theorem plan_eq (hC : CL m 1 r) (hW : RW T r) (hT : T ≤ 1000) (hP : JP m) (hch : ∀ i, i < 6 → ri m 258 i = ic 0) {w : Nat} (hw : w < 3) (U0 : Nat → Nat) (B0 : Nat → Int32) : ∃ (bs : Nat → Nat) (LT : Int32), cN m w (nO r) ≤ 6 ∧ (coU r w U0 (nO r)).2 = cN m w (nO r) ∧ (∀ i, i < cN m w (nO r) → bs i < cN m w (nO r)) ∧ (∀ q, q < cN m w (nO r) → (coU r w U0 (nO r)).1 q < nO r) ∧ (lrS m w (nO r)).1 5 = LT ∧ (∀ i, i < cN m w (nO r) → ri (lrM m w (nO r)) 261 i = r (42 + 8 * (coU r w U0 (nO r)).1 (bs i)) ∧ ri (lrM m w (nO r)) 262 i = (mlF (fun i => rwJ r ((coU r w U0 (nO r)).1 (bs i))) (r (18 + 8 * w + 0)) (r (18 + 8 * w + 1)) (r (18 + 8 * w + 2)) (i + 1)).2.2.1 ∧ isN (ri (lrM m w (nO r)) 262 i) (99 * T + 264)) ∧ (∀ i, i < 6 → ri (lrM m w (nO r)) 258 i = ic 0) ∧ (∃ R, mpF (mlate r w (cN m w (nO r))) (cN m w (nO r)) 720 (coU r w U0 (nO r)).1 (mlate r w (cN m w (nO r)) (coU r w U0 (nO r)).1) (cpf (cN m w (nO r)) (fun i => ic ((coU r w U0 (nO r)).1 i)) B0) = some R ∧ R.2.1 = LT ∧ ∀ i, i < cN m w (nO r) → R.2.2 i = ic ((coU r w U0 (nO r)).1 (bs i))) ∧ kOK m w (nO r) ∧ (lbR m w (nO r)).2 = LT := by
  obtain ⟨hco, hcn, hV, hVm⟩ := co_eq hC hW hP hw (U0 := U0) (nO r) (Nat.le_refl _)
  have hc6 := (coM_6 (m := m) (w := ic w) (nO r)).1
  have hrp := (coM_rp (m := m) (w := ic w) (nO r)).1
  rw [← hco] at hV hVm
  generalize hVe : (coU r w U0 (nO r)).1 = V at hV hVm ⊢
  have hcoe : (coU r w U0 (nO r)).2 = cN m w (nO r) := hco.symm
  show ∃ (bs : Nat → Nat) (LT : Int32), _
  generalize hce : cN m w (nO r) = c at hcoe ⊢
  have hce' : (coM m (ic w) (nO r)).2 = c := hce
  rw [hce'] at hV hVm hc6
  have hJv : ∀ i, i < c → ∀ k, k < 8 → pJ (cM m w (nO r)) i k = jt k (r (42 + 8 * V i + k)) := fun i hi k hk => by
    unfold pJ
    show ri (coM m (ic w) (nO r)).1 (rp (coM m (ic w) (nO r)).1 257 i) k = _
    rw [hrp]
    exact (hV i hi).2 k hk
  have hbr := (hC.2.2.2.1 w hw).1
  have hB := hW.bar hw
  have hlm : ∀ l, PB c (gl l) → ∀ n, n ≤ c → loF (ordJ (pJ (cM m w (nO r))) l) (ri m (3 + (15 + 2 * w)) 0) (ri m (3 + (15 + 2 * w)) 1) (ri m (3 + (15 + 2 * w)) 2) n = mlF (fun i => rwJ r (V (gl l i))) (r (18 + 8 * w + 0)) (r (18 + 8 * w + 1)) (r (18 + 8 * w + 2)) n ∧ isN (mlF (fun i => rwJ r (V (gl l i))) (r (18 + 8 * w + 0)) (r (18 + 8 * w + 1)) (r (18 + 8 * w + 2)) n).2.2.1 (99 * T + 44 * n) := fun l hl n hn => by
    have e0 : ri m (3 + (15 + 2 * w)) 0 = r (18 + 8 * w + 0) := hbr 0 (by decide)
    have e1 : ri m (3 + (15 + 2 * w)) 1 = r (18 + 8 * w + 1) := hbr 1 (by decide)
    have e2 : ri m (3 + (15 + 2 * w)) 2 = r (18 + 8 * w + 2) := hbr 2 (by decide)
    rw [e0, e1, e2]
    have := lo_ml (J := ordJ (pJ (cM m w (nO r))) l) (K := fun i => rwJ r (V (gl l i))) (x := r (18 + 8 * w + 0)) (y := r (18 + 8 * w + 1)) (c := r (18 + 8 * w + 2)) (C := 99 * T) hB.1 hB.2.1 hB.2.2.1 n (by omega) (fun i hi => by
      have hi2 := hl i (by omega)
      have hj := hJv (gl l i) hi2
      have hJO := hW.job (hV (gl l i) hi2).1
      unfold ordJ rwJ
      rw [hj 1 (by decide), hj 2 (by decide), hj 5 (by decide), hj 6 (by decide), jt_n _ (by decide) (by decide), jt_n _ (by decide) (by decide), jt_n _ (by decide) (by decide), jt_n _ (by decide) (by decide)]
      obtain ⟨a, a1, a2, a3⟩ := hJO.2.2.2.2.2.1
      obtain ⟨b, b1, b2, b3⟩ := hJO.2.2.2.2.2.2.1
      exact ⟨⟨rfl, rfl, rfl, rfl⟩, hJO.2.1, hJO.2.2.1, ⟨a, a2, a3⟩, ⟨b, b2, b3⟩⟩)
    exact ⟨this.1, this.2.2.2⟩
  have hbest := ch_best (J := pJ (cM m w (nO r))) (x0 := ri m (3 + (15 + 2 * w)) 0) (y0 := ri m (3 + (15 + 2 * w)) 1) (c0 := ri m (3 + (15 + 2 * w)) 2) hc6 (s := (upd (upd (ri (cM m w (nO r)) 256) 4 (ic 0)) 5 (ic 0), ri (cM m w (nO r)) 258, ri (cM m w (nO r)) 259, ri (cM m w (nO r)) 260, ri (cM m w (nO r)) 261, ri (cM m w (nO r)) 262)) (by show upd (upd (ri (cM m w (nO r)) 256) 4 (ic 0)) 5 (ic 0) 4 = ic 0; rw [upd_n _ _ (by decide), upd_s]) (fun i hi => by
    show ri (cM m w (nO r)) 258 i = ic 0
    unfold cM
    rw [coM_o hP _ (by decide) (by decide)]
    exact hch i (by omega))
  have hlr : lrS m w (nO r) = chF (pJ (cM m w (nO r))) c c 0 (ri m (3 + (15 + 2 * w)) 0) (ri m (3 + (15 + 2 * w)) 1) (ri m (3 + (15 + 2 * w)) 2) (ic 0) (upd (upd (ri (cM m w (nO r)) 256) 4 (ic 0)) 5 (ic 0), ri (cM m w (nO r)) 258, ri (cM m w (nO r)) 259, ri (cM m w (nO r)) 260, ri (cM m w (nO r)) 261, ri (cM m w (nO r)) 262) := by
    unfold lrS
    rw [hce]
  rw [← hlr] at hbest
  obtain ⟨⟨_, hb5, hbo⟩, hbch⟩ := hbest
  have hPBb := bstL_PB (ltL (pJ (cM m w (nO r))) (ri m (3 + (15 + 2 * w)) 0) (ri m (3 + (15 + 2 * w)) 1) (ri m (3 + (15 + 2 * w)) 2) c) c
  have hVmono : ∀ i, i < c → ∀ j, j < c → (V i < V j) = (i < j) := fun i hi j hj => by
    apply propext
    constructor
    · intro h
      rcases Nat.lt_trichotomy i j with g | g | g
      · exact g
      · subst g; omega
      · have := hVm j i g hi; omega
    · intro h
      exact hVm i j h hj
  refine ⟨gl (bstL (ltL (pJ (cM m w (nO r))) (ri m (3 + (15 + 2 * w)) 0) (ri m (3 + (15 + 2 * w)) 1) (ri m (3 + (15 + 2 * w)) 2) c) c), _, hc6, hcoe, hPBb, fun q hq => (hV q hq).1, hb5, fun i hi => ?_, fun i hi => ?_, ?_, ?_, ?_⟩
  · have h1 := (hbo i hi).1
    have h2 := (hbo i hi).2
    have e1 : ri (lrM m w (nO r)) 261 i = (lrS m w (nO r)).2.2.2.2.1 i := by
      unfold lrM pM
      rw [ps_261]
    have e2 : ri (lrM m w (nO r)) 262 i = (lrS m w (nO r)).2.2.2.2.2 i := by
      unfold lrM pM
      rw [ps_262]
    have h3 := hlm _ hPBb (i + 1) (by omega)
    unfold fiL at h2
    rw [h3.1] at h2
    rw [e1, e2, h1, h2, hJv _ (hPBb i hi) 0 (by decide), jt_n _ (by decide) (by decide)]
    exact ⟨rfl, rfl, h3.2.mono (by omega)⟩
  · have e1 : ri (lrM m w (nO r)) 258 i = (lrS m w (nO r)).2.1 i := by
      unfold lrM pM
      rw [ps_258]
    rw [e1, hbch i]
    show ri (cM m w (nO r)) 258 i = ic 0
    unfold cM
    rw [coM_o hP _ (by decide) (by decide)]
    exact hch i hi
  · exact mp_best (by omega) hVmono (fun p l hpl hl => by
      unfold ltL
      rw [(hlm l hl c (Nat.le_refl c)).1]
      unfold mlate
      rw [mlF_congr c (K := fun i => rwJ r (V (gl l i))) (fun i hi => by show rwJ r (V (p i)) = _; rw [hpl i hi])])
  · intro i hi j hj
    rw [hce] at hi hj
    have e : ∀ q, q < c → ri (cM m w (nO r)) (rp m 257 q) 0 = r (42 + 8 * V q + 0) := fun q hq => by
      have := (hV q hq).2 0 (by decide)
      rw [jt_n _ (by decide) (by decide)] at this
      exact this
    rw [e i hi, e j hj, ← hVmono i hi j hj]
    have hlt : ∀ p q, p < c → q < c → V p < V q → r (42 + 8 * V p + 0) < r (42 + 8 * V q + 0) := fun p q hp hq hpq => by
      have h1 := (hV q hq).1
      obtain ⟨n2, nx, late, work, ⟨b1, b2, b3, b4, b5, b6, b7, b8, b9⟩, _, _, _, _, aJ⟩ := hW
      rw [nO_of b5 b1] at h1
      exact aJ.2.1 _ _ hpq h1
    apply propext
    constructor
    · intro h
      rcases Nat.lt_trichotomy (V i) (V j) with g | g | g
      · exact g
      · rw [g] at h
        exact absurd h Int32.lt_irrefl
      · exact absurd (hlt j i hj hi g) (Int32.lt_asymm h)
    · exact hlt i j hi hj
  · show (lbF (lateP (cM m w (nO r)) (rp m 257) w (cN m w (nO r))) (cN m w (nO r)) 719 id (lateP (cM m w (nO r)) (rp m 257) w (cN m w (nO r)) id)).2 = _
    rw [hce]
    exact lb_best (by omega) (fun p l hpl _ => by
      have h3 : ri (cM m w (nO r)) (3 + (15 + 2 * w)) = ri m (3 + (15 + 2 * w)) := coM_o hP _ (by omega) (by omega)
      unfold lateP ltL
      rw [h3, loF_congr c (K := ordJ (pJ (cM m w (nO r))) l) (fun i hi => by
        unfold ordJ pJ
        rw [hpl i hi]
        show ri (cM m w (nO r)) (rp m 257 (gl l i)) = ri (cM m w (nO r)) (rp (coM m (ic w) (nO r)).1 257 (gl l i))
        rw [hrp])])
end P10
