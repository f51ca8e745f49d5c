/-! the reference's changes against the rows; expanded by px.py out of p6.src -/
section P6
variable {n0 N z d T : Nat} {S0 : Nat → Value} {G : sH} {m : mm} {r : Nat → Int32}
theorem q_add (hr : ri m 293 = r) (hW : RW T r) {x y k t w u : Int32} : (∀ d N z, Mt (n0, S0) (d + 3) 132 [.ref (n0 + 292), .int x, .int y, .int k, .int t, .int w, .int u] (hp n0 G m, N, z) = oI n0 G m N z (ic (wAdd r x y k t w u))) ∧ (wAdd r x y k t w u = 0 → ∀ d N z, Mt (n0, S0) (d + 1) 137 [.ref (n0 + 292), .int x, .int y, .int k, .int t, .int w, .int u] (hp n0 G m, N, z) = oI n0 G (wa m 293 (nAdd r x y k t w u)) N z (r 1)) := by
  obtain ⟨n, h12, h0, hN⟩ := hW.n
  refine ⟨fun d N z => ?_, fun h d N z => ?_⟩
  · rw [m_cannotAdd]
    unfold wAdd
    rw [hr]
    by_cases h1 : okAddR x y k t w u
    · rw [if_pos h1, if_pos h1]
      split <;> rfl
    · rw [if_neg h1, if_neg h1]
  · have hlt : n < 12 := by
      unfold wAdd at h
      by_cases h1 : okAddR x y k t w u
      · rw [if_pos h1] at h
        by_cases h2 : r 0 = ic 12
        · rw [if_pos h2] at h
          omega
        · rw [h0, ic_eq (by omega) (by omega)] at h2
          omega
      · rw [if_neg h1] at h
        omega
    rw [m_adds (by rw [hr]; exact h0) hlt, hr]
    unfold nAdd
    rw [hN, Int32.add_sub_cancel]
theorem q_cancel (hr : ri m 293 = r) (hW : RW T r) {job : Int32} {a : Nat} (h : fO r job = some a) : (∀ d N z, Mt (n0, S0) (d + 2) 140 [.ref (n0 + 292), .int job] (hp n0 G m, N, z) = oI n0 G m N z (ic a)) ∧ (∀ d N z, Mt (n0, S0) (d + 1) 142 [.ref (n0 + 292), .int (ic a)] (hp n0 G m, N, z) = oI n0 G (wa m 293 (nCan r job)) N z (ic (nO r - 1))) := by
  obtain ⟨n, h12, h0, hN⟩ := hW.n
  refine ⟨fun d N z => ?_, fun d N z => ?_⟩
  · rw [m_find (by rw [hr]; exact h0) h12, hr]
    unfold fO at h
    rw [hN] at h
    rw [h]
    rfl
  · have ha := (fO_lt h).1
    rw [m_removes (by rw [hr]; exact h0) h12 (by omega), hr]
    unfold nCan
    rw [aO_of h, hN]
theorem q_findNo (hr : ri m 293 = r) (hW : RW T r) {job : Int32} (h : fO r job = none) : ∀ d N z, Mt (n0, S0) (d + 2) 140 [.ref (n0 + 292), .int job] (hp n0 G m, N, z) = oI n0 G m N z (-ic 1) := by
  obtain ⟨n, h12, h0, hN⟩ := hW.n
  intro d N z
  rw [m_find (by rw [hr]; exact h0) h12, hr]
  unfold fO at h
  rw [hN] at h
  rw [h]
  rfl
theorem q_assign (hr : ri m 293 = r) (hW : RW T r) {job w : Int32} : (∀ d N z, Mt (n0, S0) (d + 3) 144 [.ref (n0 + 292), .int job, .int w] (hp n0 G m, N, z) = oI n0 G m N z (ic (wAsg r job w))) ∧ (wAsg r job w = 0 → ∀ d N z, Mt (n0, S0) (d + 3) 147 [.ref (n0 + 292), .int job, .int w] (hp n0 G m, N, z) = oI n0 G (wa m 293 (nAsg r job w)) N z (vAsg r job w)) := by
  obtain ⟨n, h12, h0, hN⟩ := hW.n
  refine ⟨fun d N z => ?_, fun h d N z => ?_⟩
  · rw [m_cannotAssign (by rw [hr]; exact h0) h12, hr]
    unfold wAsg fO
    rw [hN]
    cases hq : fdF r n job with
    | none => rfl
    | some a =>
      dsimp only
      split
      · split <;> rfl
      · rfl
  · cases hq : fO r job with
    | none =>
      unfold wAsg at h
      rw [hq] at h
      exact absurd h (Nat.succ_ne_zero _)
    | some a =>
      have hq2 := hq
      unfold fO at hq2
      rw [hN] at hq2
      rw [m_assigns (by rw [hr]; exact h0) h12 (by rw [hr]; exact hq2), wi_chain, hr]
      unfold vAsg nAsg
      rw [aO_of hq, hN, ri_as]
theorem q_unassign (hr : ri m 293 = r) (hW : RW T r) {job : Int32} : (∀ d N z, Mt (n0, S0) (d + 3) 149 [.ref (n0 + 292), .int job] (hp n0 G m, N, z) = oI n0 G m N z (ic (wUna r job))) ∧ (wUna r job = 0 → ∀ d N z, Mt (n0, S0) (d + 3) 150 [.ref (n0 + 292), .int job] (hp n0 G m, N, z) = oI n0 G (wa m 293 (nUna r job)) N z (vUna r job)) := by
  obtain ⟨n, h12, h0, hN⟩ := hW.n
  refine ⟨fun d N z => ?_, fun h d N z => ?_⟩
  · rw [m_cannotUnassign (by rw [hr]; exact h0) h12, hr]
    unfold wUna fO
    rw [hN]
    cases hq : fdF r n job with
    | none => rfl
    | some a =>
      dsimp only
      split <;> rfl
  · cases hq : fO r job with
    | none =>
      unfold wUna at h
      rw [hq] at h
      exact absurd h (Nat.succ_ne_zero _)
    | some a =>
      have hq2 := hq
      unfold fO at hq2
      rw [hN] at hq2
      rw [m_unassigns (by rw [hr]; exact h0) h12 (by rw [hr]; exact hq2), wi_chain, hr]
      unfold vUna nUna
      rw [aO_of hq]
theorem q_stock (hr : ri m 293 = r) {k c : Int32} : (∀ d N z, Mt (n0, S0) (d + 3) 152 [.ref (n0 + 292), .int k, .int c] (hp n0 G m, N, z) = oI n0 G m N z (ic (wStk r k c))) ∧ (wStk r k c = 0 → ∀ d N z, Mt (n0, S0) (d + 3) 153 [.ref (n0 + 292), .int k, .int c] (hp n0 G m, N, z) = oI n0 G (wa m 293 (nStk r k c)) N z (vStk r k c)) := by
  by_cases hk : (¬ k < ic 97 ∧ k < ic 101)
  · have hk0 := hk
    obtain ⟨w, h1, h2, rfl⟩ := rng2 (by decide) (by decide) hk.1 hk.2
    obtain ⟨j, rfl⟩ : ∃ j, w = 97 + j := ⟨w - 97, by omega⟩
    have hj : j < 4 := by omega
    refine ⟨fun d N z => ?_, fun h d N z => ?_⟩
    · rw [m_cannotStock hk0 hj rfl, hr]
      unfold wStk
      rw [if_pos hk0, kO_ic hj]
      split
      · split <;> rfl
      · rfl
    · rw [m_stocks hj, wi_chain, hr]
      unfold vStk nStk
      rw [kO_ic hj]
  · refine ⟨fun d N z => ?_, fun h => ?_⟩
    · rw [m_cannotStockBad hk]
      unfold wStk
      rw [if_neg hk]
    · unfold wStk at h
      rw [if_neg hk] at h
      exact absurd h (Nat.succ_ne_zero _)
theorem q_load (hr : ri m 293 = r) {w k c : Int32} : (∀ d N z, Mt (n0, S0) (d + 3) 155 [.ref (n0 + 292), .int w, .int k, .int c] (hp n0 G m, N, z) = oI n0 G m N z (ic (wLod r w k c))) ∧ (wLod r w k c = 0 → ∀ d N z, Mt (n0, S0) (d + 3) 159 [.ref (n0 + 292), .int w, .int k, .int c] (hp n0 G m, N, z) = oI n0 G (wa m 293 (nLod r w k c)) N z (vLod r w k c)) := by
  by_cases hw : (¬ w < ic 0 ∧ w < ic 3)
  · by_cases hk : (¬ k < ic 97 ∧ k < ic 101) ∧ (¬ c < ic 1 ∧ c < ic 11)
    · have hw0 := hw
      have hk0 := hk
      obtain ⟨w, hw3, rfl⟩ := rng_of (by decide) hw
      obtain ⟨q, h1, h2, rfl⟩ := rng2 (by decide) (by decide) hk.1.1 hk.1.2
      obtain ⟨j, rfl⟩ : ∃ j, q = 97 + j := ⟨q - 97, by omega⟩
      have hj : j < 4 := by omega
      refine ⟨fun d N z => ?_, fun h d N z => ?_⟩
      · rw [m_cannotLoad hw3 hj hk0.2, hr]
        unfold wLod
        rw [if_pos hw0, if_pos hk0, kO_ic hj, wO_ic (by omega)]
        split
        · split <;> rfl
        · rfl
      · have e : ldR m w j c = wa m 293 (upd (upd r (8 + j) (r (8 + j) - c)) (18 + 8 * w + (4 + j)) (r (18 + 8 * w + (4 + j)) + c)) := by
          unfold ldR
          rw [wi_chain, wi_chain, wa_wa, ri_as, hr]
        rw [m_loads hw3 hj, e, ri_as]
        unfold vLod nLod
        rw [kO_ic hj, wO_ic (by omega)]
    · refine ⟨fun d N z => ?_, fun h => ?_⟩
      · rw [m_cannotLoadBad hw hk]
        unfold wLod
        rw [if_pos hw, if_neg hk]
      · unfold wLod at h
        rw [if_pos hw, if_neg hk] at h
        exact absurd h (Nat.succ_ne_zero _)
  · refine ⟨fun d N z => ?_, fun h => ?_⟩
    · rw [m_cannotLoadBar hw]
      unfold wLod
      rw [if_neg hw]
    · unfold wLod at h
      rw [if_neg hw] at h
      exact absurd h (Nat.succ_ne_zero _)
theorem q_hand (hr : ri m 293 = r) {w t h : Int32} : (∀ d N z, Mt (n0, S0) (d + 3) 162 [.ref (n0 + 292), .int w, .int t, .int h] (hp n0 G m, N, z) = oI n0 G m N z (ic (wHnd r w t h))) ∧ (wHnd r w t h = 0 → ∀ (g : Int32) d N z, Mt (n0, S0) (d + 3) 163 [.ref (n0 + 292), .int w, .int t, .int g] (hp n0 G m, N, z) = oI n0 G (wa m 293 (nHnd r t g)) N z (vHnd r w t g)) := by
  by_cases hw : (¬ w < ic 0 ∧ w < ic 3) ∧ (¬ t < ic 0 ∧ t < ic 6)
  · have hw0 := hw
    obtain ⟨w, hw3, rfl⟩ := rng_of (by decide) hw.1
    obtain ⟨t, ht6, rfl⟩ := rng_of (by decide) hw.2
    refine ⟨fun d N z => ?_, fun _ g d N z => ?_⟩
    · rw [m_cannotHand hw3 ht6, hr]
      unfold wHnd
      rw [if_pos hw0, wO_ic (by omega), wO_ic (by omega)]
      split <;> rfl
    · rw [m_hands ht6, wi_chain, hr]
      unfold vHnd nHnd
      rw [wO_ic (by omega), ri_as]
  · refine ⟨fun d N z => ?_, fun h => ?_⟩
    · rw [m_cannotHandBar hw]
      unfold wHnd
      rw [if_neg hw]
    · unfold wHnd at h
      rw [if_neg hw] at h
      exact absurd h (Nat.succ_ne_zero _)
theorem q_repair (hr : ri m 293 = r) (hW : RW T r) {w job : Int32} : (∀ d N z, Mt (n0, S0) (d + 3) 167 [.ref (n0 + 292), .int w, .int job] (hp n0 G m, N, z) = oI n0 G m N z (ic (wRep r w job))) ∧ (wRep r w job = 0 → ∀ d N z, Mt (n0, S0) (d + 4) 170 [.ref (n0 + 292), .int w, .int job] (hp n0 G m, N, z) = oI n0 G (wa m 293 (nRep r w job)) N z (vRep r w job)) := by
  obtain ⟨n, h12, h0, hN⟩ := hW.n
  have h0' : ri m 293 0 = ic n := by rw [hr]; exact h0
  by_cases hw : (¬ w < ic 0 ∧ w < ic 3)
  · cases hq : fO r job with
    | none =>
      have hq2 := hq
      unfold fO at hq2
      rw [hN, ← hr] at hq2
      refine ⟨fun d N z => ?_, fun h => ?_⟩
      · rw [m_cannotRepNo h0' h12 hw hq2]
        unfold wRep
        rw [if_pos hw, hq]
      · unfold wRep at h
        rw [if_pos hw, hq] at h
        exact absurd h (Nat.succ_ne_zero _)
    | some a =>
      have hq2 := hq
      unfold fO at hq2
      rw [hN, ← hr] at hq2
      have hw0 := hw
      obtain ⟨w, hw3, rfl⟩ := rng_of (by decide) hw
      have ha : a < n := hN ▸ (fO_lt hq).1
      have hJO := hW.job (i := a) (by omega)
      obtain ⟨t, ht5, ht⟩ := hJO.2.2.2.2.1
      obtain ⟨k, hk4, hk⟩ := hJO.2.2.2.1
      dsimp only at ht hk
      refine ⟨fun d N z => ?_, fun h d N z => ?_⟩
      · rw [m_cannotRepair h0' h12 hw3 hq2 (by rw [hr]; exact ht) (by omega) (by rw [hr]; exact hk) hk4, hr]
        unfold wRep
        rw [if_pos hw0, hq]
        dsimp only
        rw [ht, hk, wO_ic (by omega), wO_ic (by omega), kO_ic hk4]
        split
        · split <;> rfl
        · rfl
      · rw [m_repairs h0' h12 hw3 hq2 (by rw [hr]; exact hk) hk4, hr]
        unfold vRep nRep
        rw [aO_of hq, hk, kO_ic hk4, wO_ic (by omega), hN]
  · refine ⟨fun d N z => ?_, fun h => ?_⟩
    · rw [m_cannotRepBar hw]
      unfold wRep
      rw [if_neg hw]
    · unfold wRep at h
      rw [if_neg hw] at h
      exact absurd h (Nat.succ_ne_zero _)
theorem q_home (hr : ri m 293 = r) {w : Int32} (h : wHom w = 0) : (¬ w < ic 0 ∧ w < ic 3) ∧ ∀ d N z, Mt (n0, S0) (d + 2) 175 [.ref (n0 + 292), .int w] (hp n0 G m, N, z) = oI n0 G (wa m 293 (nHom r w)) N z (vHom r w) := by
  have hw : (¬ w < ic 0 ∧ w < ic 3) := Classical.byContradiction (fun q => by
    unfold wHom at h
    rw [if_neg q] at h
    exact absurd h (Nat.succ_ne_zero _))
  refine ⟨hw, fun d N z => ?_⟩
  obtain ⟨w, hw3, rfl⟩ := rng_of (by decide) hw
  rw [m_drivesHome hw3, hr]
  unfold vHom nHom
  rw [wO_ic (by omega)]
theorem q_rest (hr : ri m 293 = r) {w u : Int32} : (∀ d N z, Mt (n0, S0) (d + 3) 177 [.int w, .int u] (hp n0 G m, N, z) = oI n0 G m N z (ic (wRst w u))) ∧ (wRst w u = 0 → ∀ d N z, Mt (n0, S0) (d + 2) 178 [.ref (n0 + 292), .int w, .int u] (hp n0 G m, N, z) = oI n0 G (wa m 293 (nRst r w u)) N z (vRst r w u)) := by
  refine ⟨fun d N z => ?_, fun h d N z => ?_⟩
  · rw [m_cannotRest]
    unfold wRst
    split
    · split <;> rfl
    · rfl
  · have hw : (¬ w < ic 0 ∧ w < ic 3) := Classical.byContradiction (fun q => by
      unfold wRst at h
      rw [if_neg q] at h
      exact absurd h (Nat.succ_ne_zero _))
    obtain ⟨w, hw3, rfl⟩ := rng_of (by decide) hw
    rw [m_rests hw3, wi_chain, hr]
    unfold vRst nRst
    rw [wO_ic (by omega)]
end P6
