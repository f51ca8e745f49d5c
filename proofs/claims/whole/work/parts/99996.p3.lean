/-! the class's changes against the rows; expanded by px.py out of p3.src -/
theorem okA (x y k t w u : Int32) : okAdd x y (kI k) t w u = okAddR x y k t w u := by
  unfold okAdd
  simp only [kI_in, le_lt (a := 20) (by decide), le_lt (a := 4) (by decide), le_lt (a := 199) (by decide), and_assoc, Nat.reduceAdd]
theorem m1z : (-ic 1 : Int32) + ic 1 = ic 0 := by decide
theorem ad_lo {f : Nat → Int32} {n : Nat} {a b c d e g : Int32} {x : Nat} (h0 : x ≠ 0) (h1 : x ≠ 1) (h : x < 42 + 8 * n) : addF f n a b c d e g x = f x := by
  unfold addF
  rw [upd_n _ _ h1, upd_n _ _ h0, upd_n _ _ (by omega), upd_n _ _ (by omega), upd_n _ _ (by omega), upd_n _ _ (by omega), upd_n _ _ (by omega), upd_n _ _ (by omega), upd_n _ _ (by omega), upd_n _ _ (by omega)]
theorem ad_0 {f : Nat → Int32} {n : Nat} {a b c d e g : Int32} : addF f n a b c d e g 0 = ic (n + 1) := by
  unfold addF
  rw [upd_n _ _ (by omega), upd_s]
theorem ad_1 {f : Nat → Int32} {n : Nat} {a b c d e g : Int32} : addF f n a b c d e g 1 = f 1 + ic 1 := by
  unfold addF
  rw [upd_s]
theorem ad_j {f : Nat → Int32} {n : Nat} {a b c d e g : Int32} {k : Nat} (hk : k < 8) : addF f n a b c d e g (42 + 8 * n + k) = if k = 0 then f 1 else if k = 1 then a else if k = 2 then b else if k = 3 then c else if k = 4 then d else if k = 5 then e else if k = 6 then g else ic 0 := by
  unfold addF
  rw [upd_n _ _ (by omega), upd_n _ _ (by omega)]
  rcases (by omega : k = 0 ∨ k = 1 ∨ k = 2 ∨ k = 3 ∨ k = 4 ∨ k = 5 ∨ k = 6 ∨ k = 7) with rfl | rfl | rfl | rfl | rfl | rfl | rfl | rfl
  · rw [upd_n _ _ (by omega), upd_n _ _ (by omega), upd_n _ _ (by omega), upd_n _ _ (by omega), upd_n _ _ (by omega), upd_n _ _ (by omega), upd_n _ _ (by omega)]
    exact upd_s _ _ _
  · rw [upd_n _ _ (by omega), upd_n _ _ (by omega), upd_n _ _ (by omega), upd_n _ _ (by omega), upd_n _ _ (by omega), upd_n _ _ (by omega), upd_s]
    rfl
  · rw [upd_n _ _ (by omega), upd_n _ _ (by omega), upd_n _ _ (by omega), upd_n _ _ (by omega), upd_n _ _ (by omega), upd_s]
    rfl
  · rw [upd_n _ _ (by omega), upd_n _ _ (by omega), upd_n _ _ (by omega), upd_n _ _ (by omega), upd_s]
    rfl
  · rw [upd_n _ _ (by omega), upd_n _ _ (by omega), upd_n _ _ (by omega), upd_s]
    rfl
  · rw [upd_n _ _ (by omega), upd_n _ _ (by omega), upd_s]
    rfl
  · rw [upd_n _ _ (by omega), upd_s]
    rfl
  · rw [upd_s]
    rfl
section P3
variable {n0 N z d T : Nat} {S0 : Nat → Value} {G : sH} {m : mm} {r : Nat → Int32}
theorem k_add (hC : CL m 1 r) (hW : RW T r) (hJ : JV m 1) {x y k t w u : Int32} : ∃ m2 ret, (∀ d N z, Mt (n0, S0) (d + 2) 45 [.ref (n0 + 1), .int x, .int y, .int (kI k), .int t, .int w, .int u] (hp n0 G m, N, z) = oI n0 G m2 N z ret) ∧ oR m m2 (nAdd r x y k t w u) (wAdd r x y k t w u) eAdd ret (r 1) := by
  obtain ⟨n, h12, h0, hN⟩ := hW.n
  have hn : ri m 1 1 = ic n := hC.1.1.trans h0
  by_cases hok : okAddR x y k t w u
  · have hok' : okAdd x y (kI k) t w u := by rw [okA]; exact hok
    by_cases hf : r 0 = ic 12
    · refine ⟨m, -ic 2, fun d N z => c_enterFull isS_1 hok' (hC.1.1.trans hf), Or.inl ?_⟩
      unfold wAdd
      rw [if_pos hok, if_pos hf]
      exact ⟨Nat.succ_pos _, rfl, rfl⟩
    · have hlt : n < 12 := by
        rw [h0, ic_eq (by omega) (by omega)] at hf
        omega
      have hb := hJ.1 n hlt
      refine ⟨_, _, fun d N z => c_enterOk isS_1 hJ hok' hn hlt, Or.inr ⟨by unfold wAdd; rw [if_pos hok, if_neg hf], hC.1.2.1, ?_, hJ, ?_⟩⟩
      · obtain ⟨⟨a1, a2, a3, a4, a5⟩, a6, a7, a8, a9⟩ := hC
        unfold nAdd
        rw [hN] at a9 ⊢
        generalize ho : rp m (1 + 1) n = o at hb ⊢
        have hri : ∀ q, q ≠ 1 → q ≠ o → ri (wi (wi (wi (wi (wi (wi (wi (wi (wi (wi m o 0 (ri m 1 2)) o 1 x) o 2 y) o 3 (kI k)) o 4 t) o 5 w) o 6 u) o 7 (-ic 1)) 1 1 (ic (n + 1))) 1 2 (ri m 1 2 + ic 1)) q = ri m q := fun q h1 h2 => by
          rw [ri_wn _ _ _ h1, ri_wn _ _ _ h1, ri_wn _ _ _ h2, ri_wn _ _ _ h2, ri_wn _ _ _ h2, ri_wn _ _ _ h2, ri_wn _ _ _ h2, ri_wn _ _ _ h2, ri_wn _ _ _ h2, ri_wn _ _ _ h2]
        have h1o : (1 : Nat) ≠ o := by omega
        have hri1 : ri (wi (wi (wi (wi (wi (wi (wi (wi (wi (wi m o 0 (ri m 1 2)) o 1 x) o 2 y) o 3 (kI k)) o 4 t) o 5 w) o 6 u) o 7 (-ic 1)) 1 1 (ic (n + 1))) 1 2 (ri m 1 2 + ic 1)) 1 = upd (upd (ri m 1) 1 (ic (n + 1))) 2 (ri m 1 2 + ic 1) := by
          rw [ri_ws, ri_ws, ri_wn _ _ _ h1o, ri_wn _ _ _ h1o, ri_wn _ _ _ h1o, ri_wn _ _ _ h1o, ri_wn _ _ _ h1o, ri_wn _ _ _ h1o, ri_wn _ _ _ h1o, ri_wn _ _ _ h1o]
        have hrio : ri (wi (wi (wi (wi (wi (wi (wi (wi (wi (wi m o 0 (ri m 1 2)) o 1 x) o 2 y) o 3 (kI k)) o 4 t) o 5 w) o 6 u) o 7 (-ic 1)) 1 1 (ic (n + 1))) 1 2 (ri m 1 2 + ic 1)) o = upd (upd (upd (upd (upd (upd (upd (upd (ri m o) 0 (ri m 1 2)) 1 x) 2 y) 3 (kI k)) 4 t) 5 w) 6 u) 7 (-ic 1) := by
          rw [ri_wn _ _ _ h1o.symm, ri_wn _ _ _ h1o.symm, ri_ws, ri_ws, ri_ws, ri_ws, ri_ws, ri_ws, ri_ws, ri_ws]
        have hrp : ∀ j, rp (wi (wi (wi (wi (wi (wi (wi (wi (wi (wi m o 0 (ri m 1 2)) o 1 x) o 2 y) o 3 (kI k)) o 4 t) o 5 w) o 6 u) o 7 (-ic 1)) 1 1 (ic (n + 1))) 1 2 (ri m 1 2 + ic 1)) (1 + 1) j = rp m (1 + 1) j := fun _ => rfl
        refine ⟨⟨?_, ?_, ?_, ?_, ?_⟩, ?_, ?_, ?_, ?_⟩
        · rw [hri1, upd_n _ _ (by decide), upd_s, ad_0]
        · rw [hri1, upd_s, ad_1, a2]
        · rw [hri1, upd_n _ _ (by decide), upd_n _ _ (by decide), ad_lo (by decide) (by decide) (by omega)]
          exact a3
        · rw [ad_lo (by decide) (by decide) (by omega)]
          exact a4
        · rw [ad_lo (by decide) (by decide) (by omega)]
          exact a5
        · intro j hj
          rw [hri _ (by omega) (by omega), ad_lo (by omega) (by omega) (by omega)]
          exact a6 j hj
        · intro j hj
          rw [hri _ (by omega) (by omega), ad_lo (by omega) (by omega) (by omega)]
          exact a7 j hj
        · intro w hw
          refine ⟨fun o2 ho2 => ?_, fun j hj => ?_⟩
          · rw [hri _ (by omega) (by omega), ad_lo (by omega) (by omega) (by omega)]
            exact (a8 w hw).1 o2 ho2
          · rw [hri _ (by omega) (by omega), ad_lo (by omega) (by omega) (by omega)]
            exact (a8 w hw).2 j hj
        · intro i hi k2 hk2
          rw [nO_of ad_0 (by omega)] at hi
          rw [hrp]
          by_cases e : i = n
          · subst e
            rw [ho, hrio, ad_j hk2]
            rcases (by omega : k2 = 0 ∨ k2 = 1 ∨ k2 = 2 ∨ k2 = 3 ∨ k2 = 4 ∨ k2 = 5 ∨ k2 = 6 ∨ k2 = 7) with rfl | rfl | rfl | rfl | rfl | rfl | rfl | rfl
            · show ri m 1 2 = r 1
              exact a2
            · rfl
            · rfl
            · show kI k = k - ic 97
              exact if_pos hok.2.2.1
            · rfl
            · rfl
            · rfl
            · show (-ic 1 : Int32) = ic 0 - ic 1
              decide
          · have hb2 := hJ.1 i (by omega)
            rw [hri _ (by omega) (fun z => e (hJ.2 _ (by omega) _ (by omega) (z.trans ho.symm))), ad_lo (by omega) (by omega) (by omega)]
            exact a9 i (by omega) k2 hk2
      · intro q hq
        have h1 : q ≠ 1 := by omega
        have h2 : q ≠ rp m (1 + 1) n := by omega
        exact ⟨by rw [ri_wn _ _ _ h1, ri_wn _ _ _ h1, ri_wn _ _ _ h2, ri_wn _ _ _ h2, ri_wn _ _ _ h2, ri_wn _ _ _ h2, ri_wn _ _ _ h2, ri_wn _ _ _ h2, ri_wn _ _ _ h2, ri_wn _ _ _ h2], rfl, rfl, rfl⟩
  · refine ⟨m, -ic 1, fun d N z => c_enterBad isS_1 (by rw [okA]; exact hok), Or.inl ?_⟩
    unfold wAdd
    rw [if_neg hok]
    exact ⟨Nat.succ_pos _, rfl, rfl⟩
theorem k_cancel (hC : CL m 1 r) (hW : RW T r) (hJ : JV m 1) {job : Int32} : ∃ m2 ret, (∀ d N z, Mt (n0, S0) (d + 2) 46 [.ref (n0 + 1), .int job] (hp n0 G m, N, z) = oI n0 G m2 N z ret) ∧ oR m m2 (nCan r job) (wCan r job) eCan ret (ic (nO r - 1)) := by
  obtain ⟨n, h12, h0, hN⟩ := hW.n
  have hn : ri m 1 1 = ic n := hC.1.1.trans h0
  have hf := hC.find (job := job)
  rw [hN] at hf
  cases h : fO r job with
  | none =>
    refine ⟨m, -ic 4, fun d N z => c_dropNo isS_1 hJ hn h12 (hf.trans h), Or.inl ?_⟩
    unfold wCan
    rw [h]
    exact ⟨Nat.succ_pos _, rfl, rfl⟩
  | some a =>
    have ha : a < n := hN ▸ (fO_lt h).1
    refine ⟨_, _, fun d N z => c_dropOk isS_1 hJ hn h12 (hf.trans h) ha, Or.inr ⟨by unfold wCan; rw [h], by rw [hN], ?_, JV_close hJ ha h12, eqS_close _⟩⟩
    unfold nCan
    rw [aO_of h, hN]
    exact CL_close hC h0 h12 ha hJ
theorem k_assign (hC : CL m 1 r) (hW : RW T r) (hJ : JV m 1) {job w : Int32} : ∃ m2 ret, (∀ d N z, Mt (n0, S0) (d + 2) 48 [.ref (n0 + 1), .int job, .int w] (hp n0 G m, N, z) = oI n0 G m2 N z ret) ∧ oR m m2 (nAsg r job w) (wAsg r job w) eAsg ret (vAsg r job w) := by
  obtain ⟨n, h12, h0, hN⟩ := hW.n
  have hn : ri m 1 1 = ic n := hC.1.1.trans h0
  have hf := hC.find (job := job)
  rw [hN] at hf
  cases h : fO r job with
  | none =>
    refine ⟨m, -ic 4, fun d N z => c_handNo isS_1 hJ hn h12 (hf.trans h), Or.inl ?_⟩
    unfold wAsg
    rw [h]
    exact ⟨Nat.succ_pos _, rfl, rfl⟩
  | some a =>
    have ha : a < n := hN ▸ (fO_lt h).1
    have hg : (ri m (rp m (1 + 1) a) 7 = w) = (r (42 + 8 * a + 7) = w + ic 1) := by
      rw [hC.2.2.2.2 a (by omega) 7 (by decide), jt_7, sub1]
    have hcn := hC.asg (w := w)
    rw [hN] at hcn
    by_cases hw : (¬ w < ic 0 ∧ w < ic 3)
    · have h6 : cntF (fun i => r (42 + 8 * i + 7) = w + ic 1) n ≤ 6 := by
        obtain ⟨w, hw3, rfl⟩ := rng_of (by decide) hw
        obtain ⟨n2, nx, late, work, ⟨_, _, _, _, b5, _⟩, _, _, _, _, a5⟩ := hW
        rw [ic_add]
        have := a5.2.2 w hw3
        rwa [show n2 = n from by rw [b5, ic_eq (by omega) (by omega)] at h0; exact h0] at this
      by_cases hb : r (42 + 8 * a + 7) = w + ic 1 ∨ cntF (fun i => r (42 + 8 * i + 7) = w + ic 1) n = 6
      · refine ⟨m, -ic 2, fun d N z => c_handBad isS_1 hJ hn h12 (hf.trans h) ha hw ?_, Or.inl ?_⟩
        · rw [hg, hcn]
          rcases hb with hb | hb
          · exact Or.inl hb
          · exact Or.inr (by omega)
        · unfold wAsg
          rw [h]
          dsimp only
          rw [if_pos hw, hN, if_pos hb]
          exact ⟨Nat.succ_pos _, rfl, rfl⟩
      · have hb1 : ¬ ri m (rp m (1 + 1) a) 7 = w := by rw [hg]; exact fun q => hb (Or.inl q)
        have hb2 : cntF (fun i => ri m (rp m (1 + 1) i) 7 = w) n < 6 := by
          rw [hcn]
          have : ¬ cntF (fun i => r (42 + 8 * i + 7) = w + ic 1) n = 6 := fun q => hb (Or.inr q)
          omega
        have hC2 := CL_job hC (by omega) (by omega) hJ (a := a) (k := 7) (by decide) (v := w) (v2 := w + ic 1) (by rw [jt_7]; exact Int32.add_sub_cancel _ _)
        refine ⟨_, _, fun d N z => c_handOk isS_1 hJ hn h12 (hf.trans h) ha hw hb1 hb2, Or.inr ⟨?_, ?_, ?_, hJ, eqS_wi ?_ ?_⟩⟩
        · unfold wAsg
          rw [h]
          dsimp only
          rw [if_pos hw, hN, if_neg hb]
        · unfold vAsg nAsg
          rw [aO_of h, hN]
          have := hC2.asg (w := w)
          rw [show nO (upd r (42 + 8 * a + 7) (w + ic 1)) = n from by unfold nO; rw [upd_n _ _ (by omega)]; exact hN] at this
          exact congrArg ic this
        · unfold nAsg
          rw [aO_of h]
          exact hC2
        · have := hJ.1 a (by omega); omega
        · have := hJ.1 a (by omega); omega
    · refine ⟨m, -ic 3, fun d N z => c_handBar isS_1 hJ hn h12 (hf.trans h) hw, Or.inl ?_⟩
      unfold wAsg
      rw [h]
      dsimp only
      rw [if_neg hw]
      exact ⟨Nat.succ_pos _, rfl, rfl⟩
theorem k_unassign (hC : CL m 1 r) (hW : RW T r) (hJ : JV m 1) {job : Int32} : ∃ m2 ret, (∀ d N z, Mt (n0, S0) (d + 2) 49 [.ref (n0 + 1), .int job] (hp n0 G m, N, z) = oI n0 G m2 N z ret) ∧ oR m m2 (nUna r job) (wUna r job) eUna ret (vUna r job) := by
  obtain ⟨n, h12, h0, hN⟩ := hW.n
  have hn : ri m 1 1 = ic n := hC.1.1.trans h0
  have hf := hC.find (job := job)
  rw [hN] at hf
  cases h : fO r job with
  | none =>
    refine ⟨m, -ic 4, fun d N z => c_takeNo isS_1 hJ hn h12 (hf.trans h), Or.inl ?_⟩
    unfold wUna
    rw [h]
    exact ⟨Nat.succ_pos _, rfl, rfl⟩
  | some a =>
    have ha : a < n := hN ▸ (fO_lt h).1
    have hv := hC.2.2.2.2 a (by omega) 7 (by decide)
    rw [jt_7] at hv
    have hg : (ri m (rp m (1 + 1) a) 7 = -ic 1) = (r (42 + 8 * a + 7) = ic 0) := by
      rw [hv, sub1, m1z]
    by_cases hb : r (42 + 8 * a + 7) = ic 0
    · refine ⟨m, -ic 2, fun d N z => c_takeBad isS_1 hJ hn h12 (hf.trans h) ha (by rw [hg]; exact hb), Or.inl ?_⟩
      unfold wUna
      rw [h]
      dsimp only
      rw [if_pos hb]
      exact ⟨Nat.succ_pos _, rfl, rfl⟩
    · have hC2 := CL_job hC (by omega) (by omega) hJ (a := a) (k := 7) (by decide) (v := -ic 1) (v2 := ic 0) (by rw [jt_7]; decide)
      refine ⟨_, _, fun d N z => c_takeOk isS_1 hJ hn h12 (hf.trans h) ha (by rw [hg]; exact hb), Or.inr ⟨?_, ?_, ?_, hJ, eqS_wi ?_ ?_⟩⟩
      · unfold wUna
        rw [h]
        dsimp only
        rw [if_neg hb]
      · unfold vUna
        rw [aO_of h]
        exact hv
      · unfold nUna
        rw [aO_of h]
        exact hC2
      · have := hJ.1 a (by omega); omega
      · have := hJ.1 a (by omega); omega
theorem k_stock (hC : CL m 1 r) (hW : RW T r) (hJ : JV m 1) {k c : Int32} : ∃ m2 ret, (∀ d N z, Mt (n0, S0) (d + 2) 50 [.ref (n0 + 1), .int (kI k), .int c] (hp n0 G m, N, z) = oI n0 G m2 N z ret) ∧ oR m m2 (nStk r k c) (wStk r k c) eAdd ret (vStk r k c) := by
  obtain ⟨n, h12, h0, hN⟩ := hW.n
  by_cases hk : (¬ k < ic 97 ∧ k < ic 101)
  · obtain ⟨w, h1, h2, rfl⟩ := rng2 (by decide) (by decide) hk.1 hk.2
    obtain ⟨j, rfl⟩ : ∃ j, w = 97 + j := ⟨w - 97, by omega⟩
    have hj : j < 4 := by omega
    have hs := hC.2.1 j hj
    have hle : (¬ ic 99 < c) = (c < ic 100) := le_lt (a := 99) (by decide) c
    by_cases hc : (¬ c < ic 1 ∧ c < ic 100)
    · by_cases hb : ic 99 < r (8 + j) + c
      · refine ⟨m, -ic 2, fun d N z => ?_, Or.inl ?_⟩
        · rw [kI_ic hj]
          exact c_stockFull isS_1 hj hc.1 (by rw [hle]; exact hc.2) (by rw [hs]; exact hb)
        · unfold wStk
          rw [if_pos hk, if_pos hc, kO_ic hj, if_pos hb]
          exact ⟨Nat.succ_pos _, rfl, rfl⟩
      · refine ⟨wi m (1 + 3) j (ri m (1 + 3) j + c), ri m (1 + 3) j + c, fun d N z => ?_, Or.inr ⟨?_, ?_, ?_, JV_wi hJ, eqS_wi (by decide) (by decide)⟩⟩
        · rw [kI_ic hj]
          exact c_stockOk isS_1 hj hc.1 (by rw [hle]; exact hc.2) (by rw [hs]; exact hb)
        · unfold wStk
          rw [if_pos hk, if_pos hc, kO_ic hj, if_neg hb]
        · unfold vStk
          rw [kO_ic hj, hs]
        · unfold nStk
          rw [kO_ic hj, hs]
          exact CL_low hC (by omega) hJ (Or.inl ⟨rfl, hj, rfl, rfl⟩)
    · refine ⟨m, -ic 1, fun d N z => c_stockBad isS_1 (by rw [hle]; exact fun q => hc q.2), Or.inl ?_⟩
      unfold wStk
      rw [if_pos hk, if_neg hc]
      exact ⟨Nat.succ_pos _, rfl, rfl⟩
  · refine ⟨m, -ic 1, fun d N z => c_stockBad isS_1 (by rw [kI_in]; exact fun q => hk q.1), Or.inl ?_⟩
    unfold wStk
    rw [if_neg hk]
    exact ⟨Nat.succ_pos _, rfl, rfl⟩
end P3
