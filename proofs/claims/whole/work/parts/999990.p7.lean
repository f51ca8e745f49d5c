/-! what the rows hold stays so; expanded by px.py out of p7.src -/
section P7
variable {T T2 : Nat} {r r2 : Nat → Int32}
theorem RW_st (H : RW T r) {j : Nat} (hj : j < 4) {v : Int32} (hv : isN v 99) : RW T (upd r (8 + j) v) := by
  obtain ⟨n, nx, late, work, ⟨h1, h2, h3, h4, h5, h6, h7, h8, h9⟩, aS, aH, aB, aE, aJ⟩ := H
  refine ⟨n, nx, late, work, ⟨h1, h2, h3, h4, by rw [upd_n _ _ (by omega)]; exact h5, by rw [upd_n _ _ (by omega)]; exact h6, by rw [upd_n _ _ (by omega)]; exact h7, by rw [upd_n _ _ (by omega)]; exact h8, by rw [upd_n _ _ (by omega)]; exact h9⟩, ?_, aH.congr (fun i hi => upd_n _ _ (by omega)), fun w hw => (aB w hw).congr (fun i hi => upd_n _ _ (by omega)) (Nat.le_refl _), aE.congr (fun i hi => upd_n _ _ (by omega)), aJ.congr (fun i hi k hk => upd_n _ _ (by omega)) (Nat.le_refl _)⟩
  intro i hi
  show isN (upd r (8 + j) v (8 + i)) 99
  by_cases e : i = j
  · rw [e, upd_s]; exact hv
  · rw [upd_n _ _ (by omega)]; exact aS i hi
theorem RW_ho (H : RW T r) {t : Nat} (ht : t < 6) {v : Int32} (hv : isN v 3) : RW T (upd r (12 + t) v) := by
  obtain ⟨n, nx, late, work, ⟨h1, h2, h3, h4, h5, h6, h7, h8, h9⟩, aS, aH, aB, aE, aJ⟩ := H
  refine ⟨n, nx, late, work, ⟨h1, h2, h3, h4, by rw [upd_n _ _ (by omega)]; exact h5, by rw [upd_n _ _ (by omega)]; exact h6, by rw [upd_n _ _ (by omega)]; exact h7, by rw [upd_n _ _ (by omega)]; exact h8, by rw [upd_n _ _ (by omega)]; exact h9⟩, aS.congr (fun i hi => upd_n _ _ (by omega)), ?_, fun w hw => (aB w hw).congr (fun i hi => upd_n _ _ (by omega)) (Nat.le_refl _), aE.congr (fun i hi => upd_n _ _ (by omega)), aJ.congr (fun i hi k hk => upd_n _ _ (by omega)) (Nat.le_refl _)⟩
  intro i hi
  show isN (upd r (12 + t) v (12 + i)) 3
  by_cases e : i = t
  · rw [e, upd_s]; exact hv
  · rw [upd_n _ _ (by omega)]; exact aH i hi
theorem RW_bar (H : RW T r) (hT : T ≤ T2) {w : Nat} (hw : w < 3) (h : ∀ x, (x < 18 + 8 * w ∨ 18 + 8 * w + 8 ≤ x) ∨ x = 18 + 8 * w + 3 → r2 x = r x) (hb : bOK T2 (fun o => r2 (18 + 8 * w + o))) : RW T2 r2 := by
  obtain ⟨n, nx, late, work, ⟨h1, h2, h3, h4, h5, h6, h7, h8, h9⟩, aS, aH, aB, aE, aJ⟩ := H
  refine ⟨n, nx, late, work, ⟨h1, by omega, Nat.le_trans h3 (sqM hT), by omega, by rw [h 0 (by omega)]; exact h5, by rw [h 1 (by omega)]; exact h6, by rw [h 2 (by omega)]; exact h7.mono hT, by rw [h 3 (by omega)]; exact h8, by rw [h 4 (by omega)]; exact h9⟩, aS.congr (fun i hi => h _ (by omega)), aH.congr (fun i hi => h _ (by omega)), ?_, aE.congr (fun i hi => h _ (by omega)), aJ.congr (fun i hi k hk => h _ (by omega)) (Nat.le_refl _)⟩
  intro v hv
  by_cases e : v = w
  · rw [e]; exact hb
  · exact (aB v hv).congr (fun i hi => h _ (by omega)) hT
theorem RW_job7 (H : RW T r) {a : Nat} (ha : a < nO r) {v : Int32} (hv : isN v 3) (hc : ∀ w, w < 3 → cntF (fun i => upd r (42 + 8 * a + 7) v (42 + 8 * i + 7) = ic (w + 1)) (nO r) ≤ 6) : RW T (upd r (42 + 8 * a + 7) v) := by
  obtain ⟨n, nx, late, work, ⟨h1, h2, h3, h4, h5, h6, h7, h8, h9⟩, aS, aH, aB, aE, aJ⟩ := H
  rw [nO_of h5 h1] at ha hc
  refine ⟨n, nx, late, work, ⟨h1, h2, h3, h4, by rw [upd_n _ _ (by omega)]; exact h5, by rw [upd_n _ _ (by omega)]; exact h6, by rw [upd_n _ _ (by omega)]; exact h7, by rw [upd_n _ _ (by omega)]; exact h8, by rw [upd_n _ _ (by omega)]; exact h9⟩, aS.congr (fun i hi => upd_n _ _ (by omega)), aH.congr (fun i hi => upd_n _ _ (by omega)), fun w hw => (aB w hw).congr (fun i hi => upd_n _ _ (by omega)) (Nat.le_refl _), aE.congr (fun i hi => upd_n _ _ (by omega)), ?_, ?_, hc⟩
  · intro i hi
    by_cases e : i = a
    · subst e
      have hq := aJ.1 i hi
      unfold jOK at hq ⊢
      dsimp only at hq ⊢
      rw [upd_n _ _ (by omega), upd_n _ _ (by omega), upd_n _ _ (by omega), upd_n _ _ (by omega), upd_n _ _ (by omega), upd_n _ _ (by omega), upd_n _ _ (by omega), upd_s]
      exact ⟨hq.1, hq.2.1, hq.2.2.1, hq.2.2.2.1, hq.2.2.2.2.1, hq.2.2.2.2.2.1, hq.2.2.2.2.2.2.1, hv⟩
    · exact (aJ.1 i hi).congr (fun k hk => upd_n _ _ (by omega)) (Nat.le_refl _)
  · intro i j hij hj
    show upd r (42 + 8 * a + 7) v (42 + 8 * i + 0) < upd r (42 + 8 * a + 7) v (42 + 8 * j + 0)
    rw [upd_n _ _ (by omega), upd_n _ _ (by omega)]
    exact aJ.2.1 i j hij hj
theorem jsOK_rm {n nx a : Nat} (ha : a < n) (H : jsOK n nx (fun i k => r (42 + 8 * i + k))) : jsOK (n - 1) nx (fun i k => rmF r n a (42 + 8 * i + k)) := by
  obtain ⟨h1, h2, h3⟩ := H
  have hs : ∀ i, i < n - 1 → skF a i < n := fun i hi => by unfold skF; split <;> omega
  refine ⟨fun i hi => (h1 (skF a i) (hs i hi)).congr (fun k hk => rm_j hi hk) (Nat.le_refl _), fun i j hij hj => ?_, fun w hw => ?_⟩
  · show rmF r n a (42 + 8 * i + 0) < rmF r n a (42 + 8 * j + 0)
    rw [rm_j (by omega) (by decide), rm_j hj (by decide)]
    exact h2 _ _ (by unfold skF; split <;> split <;> omega) (hs j hj)
  · rw [cntF_congr (Q := fun i => r (42 + 8 * skF a i + 7) = ic (w + 1)) (fun i hi => by
      show (rmF r n a (42 + 8 * i + 7) = ic (w + 1)) ↔ _
      rw [rm_j hi (by decide)])]
    have := cntF_skip (fun i => r (42 + 8 * i + 7) = ic (w + 1)) a n ha
    have h4 := h3 w hw
    dsimp only at this h4
    omega
theorem RW_rm (H : RW T r) {a : Nat} (ha : a < nO r) : RW T (rmF r (nO r) a) := by
  obtain ⟨n, nx, late, work, ⟨h1, h2, h3, h4, h5, h6, h7, h8, h9⟩, aS, aH, aB, aE, aJ⟩ := H
  rw [nO_of h5 h1] at ha ⊢
  exact ⟨n - 1, nx, late, work, ⟨by omega, h2, h3, h4, rm_0, by rw [rm_lo (by decide) (by decide)]; exact h6, by rw [rm_lo (by decide) (by decide)]; exact h7, by rw [rm_lo (by decide) (by decide)]; exact h8, by rw [rm_lo (by decide) (by decide)]; exact h9⟩, aS.congr (fun i hi => rm_lo (by omega) (by omega)), aH.congr (fun i hi => rm_lo (by omega) (by omega)), fun w hw => (aB w hw).congr (fun i hi => rm_lo (by omega) (by omega)) (Nat.le_refl _), aE.congr (fun i hi => rm_lo (by omega) (by omega)), jsOK_rm ha aJ⟩
theorem in_N {x : Int32} {b : Nat} (hb : b < 2147483647) (h : ¬ x < ic 0 ∧ x < ic (b + 1)) : isN x b := by
  obtain ⟨w, h1, h2⟩ := rng_of (by omega) h
  exact ⟨w, by omega, h2⟩
theorem g_add (hW : RW T r) (hT : T ≤ 1000) {x y k t w u : Int32} (h : wAdd r x y k t w u = 0) : RW (T + 1) (nAdd r x y k t w u) ∧ isN (r 1) T := by
  obtain ⟨n, nx, late, work, ⟨h1, h2, h3, h4, h5, h6, h7, h8, h9⟩, aS, aH, aB, aE, aJ⟩ := hW
  have hok : okAddR x y k t w u := Classical.byContradiction (fun q => by
    unfold wAdd at h
    rw [if_neg q] at h
    exact absurd h (Nat.succ_ne_zero _))
  have hne : n < 12 := by
    unfold wAdd at h
    rw [if_pos hok, h5] at h
    by_cases e : n = 12
    · rw [e, if_pos rfl] at h
      omega
    · omega
  refine ⟨?_, ⟨nx, h2, h6⟩⟩
  unfold nAdd
  rw [nO_of h5 h1]
  refine ⟨n + 1, nx + 1, late, work, ⟨by omega, by omega, Nat.le_trans h3 (sqM (Nat.le_succ T)), by omega, ad_0, by rw [ad_1, h6, ic_add], by rw [ad_lo (by decide) (by decide) (by omega)]; exact h7.mono (by omega), by rw [ad_lo (by decide) (by decide) (by omega)]; exact h8, by rw [ad_lo (by decide) (by decide) (by omega)]; exact h9⟩, aS.congr (fun i hi => ad_lo (by omega) (by omega) (by omega)), aH.congr (fun i hi => ad_lo (by omega) (by omega) (by omega)), fun w hw => (aB w hw).congr (fun i hi => ad_lo (by omega) (by omega) (by omega)) (by omega), aE.congr (fun i hi => ad_lo (by omega) (by omega) (by omega)), ?_, ?_, ?_⟩
  · intro i hi
    by_cases e : i = n
    · subst e
      unfold jOK
      dsimp only
      rw [ad_j (k := 0) (by decide), ad_j (k := 1) (by decide), ad_j (k := 2) (by decide), ad_j (k := 3) (by decide), ad_j (k := 4) (by decide), ad_j (k := 5) (by decide), ad_j (k := 6) (by decide), ad_j (k := 7) (by decide)]
      refine ⟨⟨nx, by omega, h6⟩, in_N (by decide) hok.1, in_N (by decide) hok.2.1, ?_, in_N (b := 5) (by decide) hok.2.2.2.1, ?_, ?_, ⟨0, by decide, rfl⟩⟩
      · obtain ⟨q, q1, q2, q3⟩ := rng2 (by decide) (by decide) hok.2.2.1.1 hok.2.2.1.2
        exact ⟨q - 97, by omega, by show k = _; rw [q3]; congr 1; omega⟩
      · obtain ⟨q, q1, q2, q3⟩ := rng2 (by decide) (by decide) hok.2.2.2.2.1.1 hok.2.2.2.2.1.2
        exact ⟨q, by omega, by omega, q3⟩
      · obtain ⟨q, q1, q2, q3⟩ := rng2 (by decide) (by decide) hok.2.2.2.2.2.1 hok.2.2.2.2.2.2
        exact ⟨q, by omega, by omega, q3⟩
    · exact (aJ.1 i (by omega)).congr (fun k hk => ad_lo (by omega) (by omega) (by omega)) (by omega)
  · intro i j hij hj
    show addF r n x y k t w u (42 + 8 * i + 0) < addF r n x y k t w u (42 + 8 * j + 0)
    rw [ad_lo (by omega) (by omega) (by omega)]
    by_cases e : j = n
    · subst e
      rw [ad_j (by decide), if_pos rfl, h6]
      obtain ⟨q, q1, q2⟩ := (aJ.1 i (by omega)).1
      have q2' : r (42 + 8 * i + 0) = ic q := q2
      by_cases hb : nx < 2147483648
      · rw [q2', ic_lt (by omega) hb]
        exact q1
      · omega
    · rw [ad_lo (by omega) (by omega) (by omega)]
      exact aJ.2.1 i j hij (by omega)
  · intro v hv
    have e : cntF (fun i => addF r n x y k t w u (42 + 8 * i + 7) = ic (v + 1)) n = cntF (fun i => r (42 + 8 * i + 7) = ic (v + 1)) n := cntF_congr (fun i hi => by rw [ad_lo (by omega) (by omega) (by omega)])
    show cntF (fun i => addF r n x y k t w u (42 + 8 * i + 7) = ic (v + 1)) n + (if addF r n x y k t w u (42 + 8 * n + 7) = ic (v + 1) then 1 else 0) ≤ 6
    have e2 : ¬ addF r n x y k t w u (42 + 8 * n + 7) = ic (v + 1) := by
      rw [ad_j (by decide)]
      show ¬ (ic 0 = ic (v + 1))
      rw [ic_eq (by omega) (by omega)]
      omega
    rw [e, if_neg e2]
    exact aJ.2.2 v hv
theorem fO_some {job : Int32} (h : wCan r job = 0) : ∃ a, fO r job = some a ∧ a < nO r := by
  unfold wCan at h
  cases hq : fO r job with
  | none => rw [hq] at h; exact absurd h (Nat.succ_ne_zero _)
  | some a => exact ⟨a, rfl, (fO_lt hq).1⟩
theorem g_cancel (hW : RW T r) {job : Int32} (h : wCan r job = 0) : RW (T + 1) (nCan r job) ∧ isN (ic (nO r - 1)) 12 := by
  obtain ⟨a, h1, h2⟩ := fO_some h
  obtain ⟨n, h12, h0, hN⟩ := hW.n
  unfold nCan
  rw [aO_of h1]
  exact ⟨(RW_rm hW h2).mono (by omega), ⟨_, by omega, rfl⟩⟩
theorem cntF_N (P : Nat → Prop) [DecidablePred P] {n B : Nat} (h : n ≤ B) : isN (ic (cntF P n)) B := ⟨_, Nat.le_trans (cntF_le P n) h, rfl⟩
theorem g_assign (hW : RW T r) {job w : Int32} (h : wAsg r job w = 0) : RW (T + 1) (nAsg r job w) ∧ isN (vAsg r job w) 12 := by
  obtain ⟨n, h12, h0, hN⟩ := hW.n
  unfold wAsg at h
  cases hq : fO r job with
  | none => rw [hq] at h; exact absurd h (Nat.succ_ne_zero _)
  | some a =>
    rw [hq] at h
    dsimp only at h
    have ha := (fO_lt hq).1
    have hw : (¬ w < ic 0 ∧ w < ic 3) := Classical.byContradiction (fun q => by
      rw [if_neg q] at h
      exact absurd h (Nat.succ_ne_zero _))
    rw [if_pos hw] at h
    have hb : ¬ (r (42 + 8 * a + 7) = w + ic 1 ∨ cntF (fun i => r (42 + 8 * i + 7) = w + ic 1) (nO r) = 6) := fun q => by
      rw [if_pos q] at h
      exact absurd h (Nat.succ_ne_zero _)
    have hb2 : ¬ cntF (fun i => r (42 + 8 * i + 7) = w + ic 1) (nO r) = 6 := fun q => hb (Or.inr q)
    refine ⟨?_, cntF_N _ (by omega)⟩
    unfold nAsg
    rw [aO_of hq]
    obtain ⟨w, hw3, rfl⟩ := rng_of (by decide) hw
    rw [ic_add] at hb2 ⊢
    obtain ⟨n2, nx, late, work, ⟨b1, b2, b3, b4, b5, b6, b7, b8, b9⟩, _, _, _, _, aJ⟩ := id hW
    rw [nO_of b5 b1] at hb2 ha hN
    refine (RW_job7 hW (by rw [nO_of b5 b1]; exact ha) ⟨w + 1, by omega, rfl⟩ (fun v hv => ?_)).mono (by omega)
    rw [nO_of b5 b1]
    have h6 := aJ.2.2 v hv
    dsimp only at h6
    by_cases e : v = w
    · subst e
      have := cntF_one (fun i => upd r (42 + 8 * a + 7) (ic (v + 1)) (42 + 8 * i + 7) = ic (v + 1)) (fun i => r (42 + 8 * i + 7) = ic (v + 1)) a n2 (fun i hi hia hP => by
        rw [upd_n _ _ (by omega)] at hP
        exact hP)
      rw [if_pos ha] at this
      omega
    · refine Nat.le_trans (cntF_mono _ (fun i => r (42 + 8 * i + 7) = ic (v + 1)) n2 (fun i hi hP => ?_)) h6
      by_cases hia : i = a
      · subst hia
        rw [upd_s, ic_eq (by omega) (by omega)] at hP
        omega
      · rw [upd_n _ _ (by omega)] at hP
        exact hP
theorem g_unassign (hW : RW T r) {job : Int32} (h : wUna r job = 0) : RW (T + 1) (nUna r job) ∧ isN (vUna r job) 3 := by
  obtain ⟨n, h12, h0, hN⟩ := hW.n
  unfold wUna at h
  cases hq : fO r job with
  | none => rw [hq] at h; exact absurd h (Nat.succ_ne_zero _)
  | some a =>
    rw [hq] at h
    dsimp only at h
    have ha := (fO_lt hq).1
    have hb : ¬ r (42 + 8 * a + 7) = ic 0 := fun q => by
      rw [if_pos q] at h
      exact absurd h (Nat.succ_ne_zero _)
    obtain ⟨g, g1, g2⟩ := (hW.job ha).2.2.2.2.2.2.2
    dsimp only at g2
    have hg : 1 ≤ g := by
      rw [g2, ic_eq (by omega) (by omega)] at hb
      omega
    refine ⟨?_, ?_⟩
    · unfold nUna
      rw [aO_of hq]
      obtain ⟨n2, nx, late, work, ⟨b1, b2, b3, b4, b5, b6, b7, b8, b9⟩, _, _, _, _, aJ⟩ := id hW
      refine (RW_job7 hW ha ⟨0, by decide, rfl⟩ (fun v hv => ?_)).mono (by omega)
      rw [nO_of b5 b1]
      refine Nat.le_trans (cntF_mono _ (fun i => r (42 + 8 * i + 7) = ic (v + 1)) n2 (fun i hi hP => ?_)) (aJ.2.2 v hv)
      by_cases hia : i = a
      · subst hia
        rw [upd_s, ic_eq (by omega) (by omega)] at hP
        omega
      · rw [upd_n _ _ (by omega)] at hP
        exact hP
    · unfold vUna
      rw [aO_of hq, g2, ic_sub hg]
      exact ⟨g - 1, by omega, rfl⟩
theorem g_stock (hW : RW T r) {k c : Int32} (h : wStk r k c = 0) : RW (T + 1) (nStk r k c) ∧ isN (vStk r k c) 99 := by
  unfold wStk at h
  have hk : (¬ k < ic 97 ∧ k < ic 101) := Classical.byContradiction (fun q => by
    rw [if_neg q] at h
    exact absurd h (Nat.succ_ne_zero _))
  rw [if_pos hk] at h
  have hc : (¬ c < ic 1 ∧ c < ic 100) := Classical.byContradiction (fun q => by
    rw [if_neg q] at h
    exact absurd h (Nat.succ_ne_zero _))
  rw [if_pos hc] at h
  have hb : ¬ ic 99 < r (8 + kO k) + c := fun q => by
    rw [if_pos q] at h
    exact absurd h (Nat.succ_ne_zero _)
  obtain ⟨w, h1, h2, rfl⟩ := rng2 (by decide) (by decide) hk.1 hk.2
  obtain ⟨j, rfl⟩ : ∃ j, w = 97 + j := ⟨w - 97, by omega⟩
  rw [kO_ic (by omega)] at hb
  unfold nStk vStk
  rw [kO_ic (by omega)]
  obtain ⟨s, s1, s2⟩ := hW.st (j := j) (by omega)
  obtain ⟨c', c1, c2, rfl⟩ := rng2 (by decide) (by decide) hc.1 hc.2
  rw [s2, ic_add, ic_lt (by omega) (by omega)] at hb
  have hv : isN (r (8 + j) + ic c') 99 := ⟨s + c', by omega, by rw [s2, ic_add]⟩
  exact ⟨(RW_st hW (by omega) hv).mono (by omega), hv⟩
theorem g_load (hW : RW T r) {w k c : Int32} (h : wLod r w k c = 0) : RW (T + 1) (nLod r w k c) ∧ isN (vLod r w k c) 10 := by
  unfold wLod at h
  have hw : (¬ w < ic 0 ∧ w < ic 3) := Classical.byContradiction (fun q => by
    rw [if_neg q] at h
    exact absurd h (Nat.succ_ne_zero _))
  rw [if_pos hw] at h
  have hk : (¬ k < ic 97 ∧ k < ic 101) ∧ (¬ c < ic 1 ∧ c < ic 11) := Classical.byContradiction (fun q => by
    rw [if_neg q] at h
    exact absurd h (Nat.succ_ne_zero _))
  rw [if_pos hk] at h
  have hh : atH r (wO w) ∧ ¬ ic 10 < allP r (wO w) + c := Classical.byContradiction (fun q => by
    rw [if_neg q] at h
    exact absurd h (Nat.succ_ne_zero _))
  rw [if_pos hh] at h
  have hb : ¬ r (8 + kO k) < c := fun q => by
    rw [if_pos q] at h
    exact absurd h (Nat.succ_ne_zero _)
  obtain ⟨w, hw3, rfl⟩ := rng_of (by decide) hw
  obtain ⟨q, h1, h2, rfl⟩ := rng2 (by decide) (by decide) hk.1.1 hk.1.2
  obtain ⟨j, rfl⟩ : ∃ j, q = 97 + j := ⟨q - 97, by omega⟩
  obtain ⟨c', c1, c2, rfl⟩ := rng2 (by decide) (by decide) hk.2.1 hk.2.2
  rw [kO_ic (by omega)] at hb
  rw [wO_ic (by omega)] at hh
  obtain ⟨s, s1, s2⟩ := hW.st (j := j) (by omega)
  rw [s2, ic_lt (by omega) (by omega)] at hb
  obtain ⟨bx, by_, bc, P, hP, hP2⟩ := hW.bar hw3
  dsimp only at hP
  have hsum : allP r w = ic (P 0 + P 1 + P 2 + P 3) := by
    have e0 := hP 0 (by decide)
    have e1 := hP 1 (by decide)
    have e2 := hP 2 (by decide)
    have e3 := hP 3 (by decide)
    show r (18 + 8 * w + (4 + 0)) + r (18 + 8 * w + (4 + 1)) + r (18 + 8 * w + (4 + 2)) + r (18 + 8 * w + (4 + 3)) = _
    rw [e0, e1, e2, e3, ic_add, ic_add, ic_add]
  have hh2 := hh.2
  rw [hsum, ic_add, ic_lt (by omega) (by omega)] at hh2
  unfold vLod nLod
  rw [kO_ic (by omega), wO_ic (by omega)]
  have hP3 : ∀ i, i < 4 → upd (upd r (8 + j) (r (8 + j) - ic c')) (18 + 8 * w + (4 + j)) (r (18 + 8 * w + (4 + j)) + ic c') (18 + 8 * w + (4 + i)) = ic (if i = j then P j + c' else P i) := fun i hi => by
    by_cases e : i = j
    · subst e
      rw [upd_s, if_pos rfl, hP i hi, ic_add]
    · rw [upd_n _ _ (by omega), upd_n _ _ (by omega), if_neg e]
      exact hP i hi
  have hs10 : (if 0 = j then P j + c' else P 0) + (if 1 = j then P j + c' else P 1) + (if 2 = j then P j + c' else P 2) + (if 3 = j then P j + c' else P 3) ≤ 10 := by
    rcases (by omega : j = 0 ∨ j = 1 ∨ j = 2 ∨ j = 3) with rfl | rfl | rfl | rfl
    · rw [if_pos rfl, if_neg (by decide), if_neg (by decide), if_neg (by decide)]; omega
    · rw [if_neg (by decide), if_pos rfl, if_neg (by decide), if_neg (by decide)]; omega
    · rw [if_neg (by decide), if_neg (by decide), if_pos rfl, if_neg (by decide)]; omega
    · rw [if_neg (by decide), if_neg (by decide), if_neg (by decide), if_pos rfl]; omega
  refine ⟨?_, ?_⟩
  · have hR1 : RW T (upd r (8 + j) (r (8 + j) - ic c')) := RW_st hW (by omega) ⟨s - c', by omega, by rw [s2, ic_sub (by omega)]⟩
    refine RW_bar hR1 (by omega) hw3 (fun x hx => upd_n _ _ (by omega)) ⟨?_, ?_, ?_, fun i => if i = j then P j + c' else P i, hP3, hs10⟩
    · show isN (upd (upd r (8 + j) _) _ _ (18 + 8 * w + 0)) 20
      rw [upd_n _ _ (by omega), upd_n _ _ (by omega)]; exact bx
    · show isN (upd (upd r (8 + j) _) _ _ (18 + 8 * w + 1)) 20
      rw [upd_n _ _ (by omega), upd_n _ _ (by omega)]; exact by_
    · show isN (upd (upd r (8 + j) _) _ _ (18 + 8 * w + 2)) _
      rw [upd_n _ _ (by omega), upd_n _ _ (by omega)]; exact bc.mono (by omega)
  · refine ⟨_, hs10, ?_⟩
    show upd (upd r (8 + j) _) _ _ (18 + 8 * w + (4 + 0)) + upd (upd r (8 + j) _) _ _ (18 + 8 * w + (4 + 1)) + upd (upd r (8 + j) _) _ _ (18 + 8 * w + (4 + 2)) + upd (upd r (8 + j) _) _ _ (18 + 8 * w + (4 + 3)) = _
    rw [hP3 0 (by decide), hP3 1 (by decide), hP3 2 (by decide), hP3 3 (by decide), ic_add, ic_add, ic_add]
theorem g_hand (hW : RW T r) {w t h g : Int32} (hq : wHnd r w t h = 0) (hg : isN g 3) : RW (T + 1) (nHnd r t g) ∧ isN (vHnd r w t g) 6 := by
  unfold wHnd at hq
  have hw : (¬ w < ic 0 ∧ w < ic 3) ∧ (¬ t < ic 0 ∧ t < ic 6) := Classical.byContradiction (fun q => by
    rw [if_neg q] at hq
    exact absurd hq (Nat.succ_ne_zero _))
  refine ⟨?_, cntF_N _ (by decide)⟩
  obtain ⟨t, ht6, rfl⟩ := rng_of (by decide) hw.2
  unfold nHnd
  rw [wO_ic (by omega)]
  exact (RW_ho hW ht6 hg).mono (by omega)
theorem g_home (hW : RW T r) {w : Int32} (h : wHom w = 0) : RW (T + 1) (nHom r w) ∧ isN (vHom r w) (99 * T + 40) := by
  have hw := (q_home (n0 := 0) (S0 := fun _ => .null) (G := fun _ => none) (m := wa (fun _ _ => 0, fun _ _ => 0, fun _ _ => 0, fun _ _ => 0) 293 r) (ri_as _ _ _) h).1
  obtain ⟨w, hw3, rfl⟩ := rng_of (by decide) hw
  obtain ⟨bx, by_, bc, P, hP, hP2⟩ := hW.bar hw3
  unfold nHom vHom drvF
  rw [wO_ic (by omega)]
  have hv : isN (r (18 + 8 * w + 2) + r (18 + 8 * w) + r (18 + 8 * w + 1)) (99 * T + 40) := ((bc.add bx).add by_).mono (by omega)
  refine ⟨RW_bar hW (by omega) hw3 (fun x hx => by rw [upd_n _ _ (by omega), upd_n _ _ (by omega), upd_n _ _ (by omega)]) ⟨?_, ?_, ?_, P, fun j hj => ?_, hP2⟩, hv⟩
  · show isN (upd (upd _ (18 + 8 * w) (ic 0)) _ _ (18 + 8 * w)) 20
    rw [upd_n _ _ (by omega), upd_s]
    exact ⟨0, by decide, rfl⟩
  · show isN (upd _ (18 + 8 * w + 1) (ic 0) (18 + 8 * w + 1)) 20
    rw [upd_s]
    exact ⟨0, by decide, rfl⟩
  · show isN (upd (upd (upd r (18 + 8 * w + 2) _) _ _) _ _ (18 + 8 * w + 2)) _
    rw [upd_n _ _ (by omega), upd_n _ _ (by omega), upd_s]
    exact hv.mono (by omega)
  · show upd (upd (upd r (18 + 8 * w + 2) _) _ _) _ _ (18 + 8 * w + (4 + j)) = _
    rw [upd_n _ _ (by omega), upd_n _ _ (by omega), upd_n _ _ (by omega)]
    exact hP j hj
theorem g_rest (hW : RW T r) {w u : Int32} (h : wRst w u = 0) : RW (T + 1) (nRst r w u) ∧ isN (vRst r w u) (99 * T + 99) := by
  unfold wRst at h
  have hw : (¬ w < ic 0 ∧ w < ic 3) := Classical.byContradiction (fun q => by
    rw [if_neg q] at h
    exact absurd h (Nat.succ_ne_zero _))
  rw [if_pos hw] at h
  have hu : (¬ u < ic 1 ∧ u < ic 100) := Classical.byContradiction (fun q => by
    rw [if_neg q] at h
    exact absurd h (Nat.succ_ne_zero _))
  obtain ⟨w, hw3, rfl⟩ := rng_of (by decide) hw
  obtain ⟨u, u1, u2, rfl⟩ := rng2 (by decide) (by decide) hu.1 hu.2
  obtain ⟨bx, by_, bc, P, hP, hP2⟩ := hW.bar hw3
  unfold nRst vRst
  rw [wO_ic (by omega)]
  have hv : isN (r (18 + 8 * w + 2) + ic u) (99 * T + 99) := bc.add ⟨u, by omega, rfl⟩
  refine ⟨RW_bar hW (by omega) hw3 (fun x hx => upd_n _ _ (by omega)) ⟨?_, ?_, ?_, P, fun j hj => ?_, hP2⟩, hv⟩
  · show isN (upd r (18 + 8 * w + 2) _ (18 + 8 * w + 0)) 20
    rw [upd_n _ _ (by omega)]
    exact bx
  · show isN (upd r (18 + 8 * w + 2) _ (18 + 8 * w + 1)) 20
    rw [upd_n _ _ (by omega)]
    exact by_
  · show isN (upd r (18 + 8 * w + 2) _ (18 + 8 * w + 2)) _
    rw [upd_s]
    exact hv.mono (by omega)
  · show upd r (18 + 8 * w + 2) _ (18 + 8 * w + (4 + j)) = _
    rw [upd_n _ _ (by omega)]
    exact hP j hj
theorem rep_x {w a k x : Nat} (h : x ≠ 2 ∧ x ≠ 3 ∧ x ≠ 4 ∧ x ≠ 18 + 8 * w ∧ x ≠ 18 + 8 * w + 1 ∧ x ≠ 18 + 8 * w + 2 ∧ x ≠ 18 + 8 * w + 3 ∧ x ≠ 18 + 8 * w + (4 + k)) : repF r w a k x = r x := by
  unfold repF
  rw [upd_n _ _ (by omega), upd_n _ _ (by omega), upd_n _ _ (by omega), upd_n _ _ (by omega), upd_n _ _ (by omega), upd_n _ _ (by omega), upd_n _ _ (by omega), upd_n _ _ (by omega)]
theorem g_repF (hW : RW T r) (hT : T ≤ 1000) {w a k : Nat} (hw : w < 3) (ha : a < nO r) (hk : k < 4) (hp0 : ic 0 < r (18 + 8 * w + (4 + k))) : RW (T + 1) (repF r w a k) := by
  obtain ⟨L, hL1, hL2⟩ := hW.lat hT hw ha
  obtain ⟨F, hF1, hF2⟩ := hW.fin hw ha
  have hJO := hW.job ha
  obtain ⟨u, hu1, hu2, hu3⟩ := hJO.2.2.2.2.2.1
  dsimp only at hu3
  obtain ⟨n, nx, late, work, ⟨h1, h2, h3, h4, h5, h6, h7, h8, h9⟩, aS, aH, aB, aE, aJ⟩ := hW
  have hsq : 99 * (T + 1) * (T + 1) = 99 * T * T + 99 * T + 99 * T + 99 := by
    rw [Nat.mul_add 99 T 1, Nat.add_mul, Nat.mul_add, Nat.mul_add]
    omega
  refine ⟨n, nx, late + L, work + u, ⟨h1, by omega, by omega, by omega, by rw [rep_x (by omega)]; exact h5, by rw [rep_x (by omega)]; exact h6, ?_, ?_, ?_⟩, aS.congr (fun i hi => rep_x (by omega)), aH.congr (fun i hi => rep_x (by omega)), fun v hv => ?_, ?_, aJ.congr (fun i hi k hk => rep_x (by omega)) (Nat.le_refl _)⟩
  · unfold repF
    rw [upd_s]
    exact h7.add ⟨1, by decide, rfl⟩
  · unfold repF
    rw [upd_n _ _ (by omega), upd_s, h8, hL2, ic_add]
  · unfold repF
    rw [upd_n _ _ (by omega), upd_n _ _ (by omega), upd_s, h9, hu3, ic_add]
  · by_cases e : v = w
    · subst e
      obtain ⟨bx, by_, bc, P, hP, hP2⟩ := aB v hv
      dsimp only at hP
      have hP0 : 0 < P k := by
        rw [hP k hk, ic_lt (by omega) (by
          have : P k ≤ 10 := by rcases (by omega : k = 0 ∨ k = 1 ∨ k = 2 ∨ k = 3) with rfl | rfl | rfl | rfl <;> omega
          omega)] at hp0
        exact hp0
      refine ⟨?_, ?_, ?_, fun i => if i = k then P k - 1 else P i, fun j hj => ?_, ?_⟩
      · show isN (repF r v a k (18 + 8 * v)) 20
        unfold repF
        rw [upd_n _ _ (by omega), upd_n _ _ (by omega), upd_n _ _ (by omega), upd_n _ _ (by omega), upd_n _ _ (by omega), upd_n _ _ (by omega), upd_s]
        exact hJO.2.1
      · show isN (repF r v a k (18 + 8 * v + 1)) 20
        unfold repF
        rw [upd_n _ _ (by omega), upd_n _ _ (by omega), upd_n _ _ (by omega), upd_n _ _ (by omega), upd_n _ _ (by omega), upd_s]
        exact hJO.2.2.1
      · show isN (repF r v a k (18 + 8 * v + 2)) _
        unfold repF
        rw [upd_n _ _ (by omega), upd_n _ _ (by omega), upd_n _ _ (by omega), upd_n _ _ (by omega), upd_n _ _ (by omega), upd_n _ _ (by omega), upd_n _ _ (by omega), upd_s]
        exact ⟨F, by omega, hF2⟩
      · show repF r v a k (18 + 8 * v + (4 + j)) = ic (if j = k then P k - 1 else P j)
        by_cases ej : j = k
        · subst ej
          rw [if_pos rfl]
          unfold repF
          rw [upd_n _ _ (by omega), upd_n _ _ (by omega), upd_n _ _ (by omega), upd_n _ _ (by omega), upd_s, hP j hj, ic_sub hP0]
        · rw [if_neg ej, rep_x (by omega)]
          exact hP j hj
      · dsimp only
        rcases (by omega : k = 0 ∨ k = 1 ∨ k = 2 ∨ k = 3) with rfl | rfl | rfl | rfl
        · rw [if_pos rfl, if_neg (by decide), if_neg (by decide), if_neg (by decide)]; omega
        · rw [if_neg (by decide), if_pos rfl, if_neg (by decide), if_neg (by decide)]; omega
        · rw [if_neg (by decide), if_neg (by decide), if_pos rfl, if_neg (by decide)]; omega
        · rw [if_neg (by decide), if_neg (by decide), if_neg (by decide), if_pos rfl]; omega
    · exact (aB v hv).congr (fun i hi => rep_x (by omega)) (by omega)
  · obtain ⟨p, q, e1, e2, e3⟩ := aE
    dsimp only at e1
    refine ⟨fun v => if v = w then p v + u else p v, fun v => if v = w then q v + L else q v, fun v hv => ?_, ?_, ?_⟩
    · show repF r w a k (18 + 8 * v + 3) = ic (10 * (if v = w then p v + u else p v)) - ic (2 * (if v = w then q v + L else q v))
      by_cases e : v = w
      · subst e
        rw [if_pos rfl, if_pos rfl]
        unfold repF
        rw [upd_n _ _ (by omega), upd_n _ _ (by omega), upd_n _ _ (by omega), upd_s, e1 v hv, hu3, hL2, Nat.mul_add, Nat.mul_add, ← ic_add, ← ic_add, ic_mul, ic_mul]
        generalize ic (10 * p v) = A
        generalize ic (2 * q v) = B
        generalize ic (10 * u) = C
        generalize ic (2 * L) = D
        grind
      · rw [if_neg e, if_neg e, rep_x (by omega)]
        exact e1 v hv
    · dsimp only
      rcases (by omega : w = 0 ∨ w = 1 ∨ w = 2) with rfl | rfl | rfl
      · rw [if_pos rfl, if_neg (by decide), if_neg (by decide)]; omega
      · rw [if_neg (by decide), if_pos rfl, if_neg (by decide)]; omega
      · rw [if_neg (by decide), if_neg (by decide), if_pos rfl]; omega
    · dsimp only
      rcases (by omega : w = 0 ∨ w = 1 ∨ w = 2) with rfl | rfl | rfl
      · rw [if_pos rfl, if_neg (by decide), if_neg (by decide)]; omega
      · rw [if_neg (by decide), if_pos rfl, if_neg (by decide)]; omega
      · rw [if_neg (by decide), if_neg (by decide), if_pos rfl]; omega
theorem g_repair (hW : RW T r) (hT : T ≤ 1000) {w job : Int32} (h : wRep r w job = 0) : RW (T + 1) (nRep r w job) ∧ isN (vRep r w job) (198 * T + 88) := by
  unfold wRep at h
  have hw : (¬ w < ic 0 ∧ w < ic 3) := Classical.byContradiction (fun q => by
    rw [if_neg q] at h
    exact absurd h (Nat.succ_ne_zero _))
  rw [if_pos hw] at h
  cases hq : fO r job with
  | none => rw [hq] at h; exact absurd h (Nat.succ_ne_zero _)
  | some a =>
    rw [hq] at h
    dsimp only at h
    have ha := (fO_lt hq).1
    have hJO := hW.job ha
    obtain ⟨k, hk4, hk⟩ := hJO.2.2.2.1
    dsimp only at hk
    have h1 : r (12 + wO (r (42 + 8 * a + 4))) = w + ic 1 := Classical.byContradiction (fun q => by
      rw [if_neg q] at h
      exact absurd h (Nat.succ_ne_zero _))
    rw [if_pos h1] at h
    have h2 : ic 0 < r (18 + 8 * wO w + (4 + kO (r (42 + 8 * a + 3)))) := Classical.byContradiction (fun q => by
      rw [if_neg q] at h
      exact absurd h (Nat.succ_ne_zero _))
    obtain ⟨w, hw3, rfl⟩ := rng_of (by decide) hw
    rw [wO_ic (by omega), hk, kO_ic hk4] at h2
    unfold nRep vRep
    rw [aO_of hq, hk, kO_ic hk4, wO_ic (by omega)]
    have hR := g_repF hW hT hw3 ha hk4 h2
    have hnO : nO (repF r w a k) = nO r := by unfold nO; rw [rep_x (by omega)]
    refine ⟨?_, ?_⟩
    · have := RW_rm hR (a := a) (by rw [hnO]; exact ha)
      rw [hnO] at this
      exact this
    · obtain ⟨L, hL1, hL2⟩ := hW.lat hT hw3 ha
      rw [hL2, ic_mul]
      exact ⟨2 * L, by omega, rfl⟩
end P7
