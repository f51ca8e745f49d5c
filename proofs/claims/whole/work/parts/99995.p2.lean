/-! rows: an open job taken out, counted; the changes as rows; expanded by px.py out of p2.src -/
def skF (a i : Nat) : Nat := if i < a then i else i + 1
section P2
variable {f r : Nat → Int32} {n a T : Nat}
theorem rm_0 : rmF f n a 0 = ic (n - 1) := by
  unfold rmF rmZ rmS
  rw [if_neg (by omega), if_pos rfl]
theorem rm_lo {x : Nat} (h0 : x ≠ 0) (h : x < 42) : rmF f n a x = f x := by
  unfold rmF rmZ rmS
  rw [if_neg (by omega), if_neg h0, if_neg (by omega)]
theorem rm_j {i k : Nat} (hi : i < n - 1) (hk : k < 8) : rmF f n a (42 + 8 * i + k) = f (42 + 8 * skF a i + k) := by
  unfold rmF rmZ rmS skF
  rw [if_neg (by omega), if_neg (by omega)]
  by_cases h : i < a
  · rw [if_neg (by omega), if_pos h]
  · rw [if_pos (by omega), if_neg h]
    congr 1
    omega
theorem cntF_skip (P : Nat → Prop) [DecidablePred P] (a : Nat) : ∀ n, a < n → cntF (fun i => P (skF a i)) (n - 1) + (if P a then 1 else 0) = cntF P n := by
  intro n
  induction n with
  | zero => intro h; omega
  | succ n ih =>
    intro h
    by_cases ha : a = n
    · subst ha
      have e : cntF (fun i => P (skF a i)) a = cntF P a := cntF_congr (fun i hi => by unfold skF; rw [if_pos hi])
      show cntF (fun i => P (skF a i)) a + _ = cntF P a + _
      rw [e]
    · have h1 := ih (by omega)
      obtain ⟨q, rfl⟩ : ∃ q, n = q + 1 := ⟨n - 1, by omega⟩
      have e : skF a q = q + 1 := by unfold skF; rw [if_neg (by omega)]
      show cntF (fun i => P (skF a i)) q + (if P (skF a q) then 1 else 0) + _ = cntF P (q + 1) + (if P (q + 1) then 1 else 0)
      rw [e, ← h1]
      show _ = cntF (fun i => P (skF a i)) q + _ + _
      omega
theorem cntF_mono (P Q : Nat → Prop) [DecidablePred P] [DecidablePred Q] : ∀ n, (∀ i, i < n → P i → Q i) → cntF P n ≤ cntF Q n := by
  intro n
  induction n with
  | zero => intro _; exact Nat.le_refl _
  | succ n ih =>
    intro h
    have h1 := ih (fun i hi => h i (by omega))
    have h2 := h n (by omega)
    show cntF P n + (if P n then 1 else 0) ≤ cntF Q n + (if Q n then 1 else 0)
    by_cases hP : P n
    · rw [if_pos hP, if_pos (h2 hP)]; omega
    · rw [if_neg hP]; split <;> omega
theorem cntF_one (P Q : Nat → Prop) [DecidablePred P] [DecidablePred Q] (a : Nat) : ∀ n, (∀ i, i < n → i ≠ a → P i → Q i) → cntF P n ≤ cntF Q n + (if a < n then 1 else 0) := by
  intro n
  induction n with
  | zero => intro _; exact Nat.le_add_right _ _
  | succ n ih =>
    intro h
    have h1 := ih (fun i hi => h i (by omega))
    have h2 := h n (by omega)
    show cntF P n + (if P n then 1 else 0) ≤ cntF Q n + (if Q n then 1 else 0) + _
    by_cases ha : n = a
    · subst ha
      have e : (if n < n + 1 then (1 : Nat) else 0) = 1 := if_pos (by omega)
      rw [if_neg (by omega : ¬ n < n)] at h1
      rw [e]
      split <;> split <;> omega
    · have e : (if a < n + 1 then (1 : Nat) else 0) = (if a < n then 1 else 0) := by
        by_cases hlt : a < n
        · rw [if_pos hlt, if_pos (by omega)]
        · rw [if_neg hlt, if_neg (by omega)]
      rw [e]
      by_cases hP : P n
      · rw [if_pos hP, if_pos (h2 ha hP)]; omega
      · rw [if_neg hP]; omega
/-- why a change is refused (0: it isn't), as the reference counts -/
def wAdd (r : Nat → Int32) (x y k t w u : Int32) : Nat := if okAddR x y k t w u then (if r 0 = ic 12 then 2 else 0) else 1
def wCan (r : Nat → Int32) (job : Int32) : Nat := match fO r job with
  | none => 1
  | some _ => 0
def wAsg (r : Nat → Int32) (job w : Int32) : Nat := match fO r job with
  | none => 1
  | some a => if (¬ w < ic 0 ∧ w < ic 3) then (if r (42 + 8 * a + 7) = w + ic 1 ∨ cntF (fun i => r (42 + 8 * i + 7) = w + ic 1) (nO r) = 6 then 3 else 0) else 2
def wUna (r : Nat → Int32) (job : Int32) : Nat := match fO r job with
  | none => 1
  | some a => if r (42 + 8 * a + 7) = ic 0 then 2 else 0
def kO (k : Int32) : Nat := (k - ic 97).toNatClampNeg
def wO (w : Int32) : Nat := w.toNatClampNeg
theorem kO_ic {j : Nat} (hj : j < 4) : kO (ic (97 + j)) = j := by
  unfold kO
  rw [ic_sub (by omega), ic_nat (by omega)]
  omega
theorem wO_ic {w : Nat} (h : w < 1000) : wO (ic w) = w := ic_nat (by omega)
def wStk (r : Nat → Int32) (k c : Int32) : Nat := if (¬ k < ic 97 ∧ k < ic 101) then (if (¬ c < ic 1 ∧ c < ic 100) then (if ic 99 < r (8 + kO k) + c then 2 else 0) else 1) else 1
abbrev atH (r : Nat → Int32) (w : Nat) : Prop := r (18 + 8 * w) = ic 0 ∧ r (18 + 8 * w + 1) = ic 0
def wLod (r : Nat → Int32) (w k c : Int32) : Nat := if (¬ w < ic 0 ∧ w < ic 3) then (if (¬ k < ic 97 ∧ k < ic 101) ∧ (¬ c < ic 1 ∧ c < ic 11) then (if atH r (wO w) ∧ ¬ ic 10 < allP r (wO w) + c then (if r (8 + kO k) < c then 4 else 0) else 3) else 2) else 1
def wHnd (r : Nat → Int32) (w t h : Int32) : Nat := if (¬ w < ic 0 ∧ w < ic 3) ∧ (¬ t < ic 0 ∧ t < ic 6) then (if atH r (wO w) ∧ r (12 + wO t) = h then 0 else 2) else 1
def wRep (r : Nat → Int32) (w job : Int32) : Nat := if (¬ w < ic 0 ∧ w < ic 3) then (match fO r job with
  | none => 2
  | some a => if r (12 + wO (r (42 + 8 * a + 4))) = w + ic 1 then (if ic 0 < r (18 + 8 * wO w + (4 + kO (r (42 + 8 * a + 3)))) then 0 else 4) else 3) else 1
def wHom (w : Int32) : Nat := if (¬ w < ic 0 ∧ w < ic 3) then 0 else 1
def wRst (w h : Int32) : Nat := if (¬ w < ic 0 ∧ w < ic 3) then (if (¬ h < ic 1 ∧ h < ic 100) then 0 else 2) else 1
/-- the row behind a change, the change's answer -/
abbrev nAdd (r : Nat → Int32) (x y k t w u : Int32) : Nat → Int32 := addF r (nO r) x y k t w u
def aO (r : Nat → Int32) (job : Int32) : Nat := (fO r job).getD 0
theorem aO_of {job : Int32} (h : fO r job = some a) : aO r job = a := by unfold aO; rw [h]; rfl
def nCan (r : Nat → Int32) (job : Int32) : Nat → Int32 := rmF r (nO r) (aO r job)
def nAsg (r : Nat → Int32) (job w : Int32) : Nat → Int32 := upd r (42 + 8 * aO r job + 7) (w + ic 1)
def vAsg (r : Nat → Int32) (job w : Int32) : Int32 := ic (cntF (fun i => nAsg r job w (42 + 8 * i + 7) = w + ic 1) (nO r))
def nUna (r : Nat → Int32) (job : Int32) : Nat → Int32 := upd r (42 + 8 * aO r job + 7) (ic 0)
def vUna (r : Nat → Int32) (job : Int32) : Int32 := r (42 + 8 * aO r job + 7) - ic 1
def nStk (r : Nat → Int32) (k c : Int32) : Nat → Int32 := upd r (8 + kO k) (r (8 + kO k) + c)
def vStk (r : Nat → Int32) (k c : Int32) : Int32 := r (8 + kO k) + c
def nLod (r : Nat → Int32) (w k c : Int32) : Nat → Int32 := upd (upd r (8 + kO k) (r (8 + kO k) - c)) (18 + 8 * wO w + (4 + kO k)) (r (18 + 8 * wO w + (4 + kO k)) + c)
def vLod (r : Nat → Int32) (w k c : Int32) : Int32 := allP (nLod r w k c) (wO w)
def nHnd (r : Nat → Int32) (t h : Int32) : Nat → Int32 := upd r (12 + wO t) h
def vHnd (r : Nat → Int32) (w t h : Int32) : Int32 := ic (cntF (fun i => nHnd r t h (12 + i) = w + ic 1) 6)
def nRep (r : Nat → Int32) (w job : Int32) : Nat → Int32 := rmF (repF r (wO w) (aO r job) (kO (r (42 + 8 * aO r job + 3)))) (nO r) (aO r job)
def vRep (r : Nat → Int32) (w job : Int32) : Int32 := ic 2 * latF r (wO w) (aO r job)
def nHom (r : Nat → Int32) (w : Int32) : Nat → Int32 := drvF r (wO w)
def vHom (r : Nat → Int32) (w : Int32) : Int32 := r (18 + 8 * wO w + 2) + r (18 + 8 * wO w) + r (18 + 8 * wO w + 1)
def nRst (r : Nat → Int32) (w h : Int32) : Nat → Int32 := upd r (18 + 8 * wO w + 2) (r (18 + 8 * wO w + 2) + h)
def vRst (r : Nat → Int32) (w h : Int32) : Int32 := r (18 + 8 * wO w + 2) + h
/-- the class's number of an error, by the reference's -/
def eAdd (y : Nat) : Nat := y
def eCan (_ : Nat) : Nat := 4
def eAsg (y : Nat) : Nat := if y = 1 then 4 else if y = 2 then 3 else 2
def eUna (y : Nat) : Nat := if y = 1 then 4 else 2
def eLod (y : Nat) : Nat := if y = 1 then 3 else if y = 2 then 1 else if y = 3 then 2 else 5
def eHnd (y : Nat) : Nat := if y = 1 then 3 else 2
def eRep (y : Nat) : Nat := if y = 1 then 3 else if y = 2 then 4 else if y = 3 then 2 else 5
def eHom (_ : Nat) : Nat := 3
def eRst (y : Nat) : Nat := if y = 1 then 3 else 1
end P2
def oR (m m2 : mm) (r2 : Nat → Int32) (why : Nat) (ec : Nat → Nat) (ret v : Int32) : Prop := (0 < why ∧ ret = -ic (ec why) ∧ m2 = m) ∨ (why = 0 ∧ ret = v ∧ CL m2 1 r2 ∧ JV m2 1 ∧ eqS 1 24 m m2)
section P2b
variable {m : mm} {r : Nat → Int32} {n a T : Nat}
theorem JV_close (hJ : JV m 1) {v : Int32} (ha : a < n) (h12 : n ≤ 12) : JV (wi (clA m 1 a n) 1 1 v) 1 := by
  refine ⟨fun i hi => ?_, fun i hi j hj => ?_⟩
  · show 1 + 5 ≤ rp (clA m 1 a n) (1 + 1) i ∧ rp (clA m 1 a n) (1 + 1) i < 1 + 17
    unfold clA
    rw [rp_wpa, if_pos rfl]
    split
    · exact hJ.1 _ (by omega)
    · split
      · exact hJ.1 _ (by omega)
      · exact hJ.1 _ (by omega)
  · show rp (clA m 1 a n) (1 + 1) i = rp (clA m 1 a n) (1 + 1) j → _
    unfold clA
    rw [rp_wpa, rp_wpa, if_pos rfl, if_pos rfl]
    have inj := hJ.2
    split
    · split
      · intro e; have := inj _ (by omega) _ (by omega) e; omega
      · split
        · intro e; have := inj _ (by omega) _ (by omega) e; omega
        · intro e; have := inj _ (by omega) _ (by omega) e; omega
    · split
      · split
        · intro e; have := inj _ (by omega) _ (by omega) e; omega
        · split
          · intro e; omega
          · intro e; have := inj _ (by omega) _ (by omega) e; omega
      · split
        · intro e; have := inj _ (by omega) _ (by omega) e; omega
        · split
          · intro e; have := inj _ (by omega) _ (by omega) e; omega
          · intro e; exact inj _ (by omega) _ (by omega) e
theorem CL_close (hC : CL m 1 r) (h0 : r 0 = ic n) (h12 : n ≤ 12) (ha : a < n) (hJ : JV m 1) : CL (wi (clA m 1 a n) 1 1 (ic (n - 1))) 1 (rmF r n a) := by
  obtain ⟨⟨a1, a2, a3, a4, a5⟩, a6, a7, a8, a9⟩ := hC
  have hri : ∀ q, q ≠ 1 → ri (wi (clA m 1 a n) 1 1 (ic (n - 1))) q = ri m q := fun q hq => by rw [ri_wn _ _ _ hq]; rfl
  have hri1 : ∀ j, j ≠ 1 → ri (wi (clA m 1 a n) 1 1 (ic (n - 1))) 1 j = ri m 1 j := fun j hj => by rw [ri_ws, upd_n _ _ hj]; rfl
  have hnO : nO (rmF r n a) = n - 1 := nO_of rm_0 (by omega)
  refine ⟨⟨by rw [ri_ws, upd_s, rm_0], by rw [hri1 2 (by decide), rm_lo (by decide) (by decide)]; exact a2, by rw [hri1 6 (by decide), rm_lo (by decide) (by decide)]; exact a3, by rw [rm_lo (by decide) (by decide)]; exact a4, by rw [rm_lo (by decide) (by decide)]; exact a5⟩, ?_, ?_, ?_, ?_⟩
  · intro j hj
    rw [hri _ (by omega), rm_lo (by omega) (by omega)]
    exact a6 j hj
  · intro j hj
    rw [hri _ (by omega), rm_lo (by omega) (by omega)]
    exact a7 j hj
  · intro w hw
    refine ⟨fun o ho => ?_, fun j hj => ?_⟩
    · rw [hri _ (by omega), rm_lo (by omega) (by omega)]
      exact (a8 w hw).1 o ho
    · rw [hri _ (by omega), rm_lo (by omega) (by omega)]
      exact (a8 w hw).2 j hj
  · intro i hi k hk
    rw [hnO] at hi
    have e : rp (wi (clA m 1 a n) 1 1 (ic (n - 1))) (1 + 1) i = rp m (1 + 1) (skF a i) := by
      show rp (clA m 1 a n) (1 + 1) i = _
      unfold clA skF
      rw [rp_wpa, if_pos rfl]
      by_cases h : i < a
      · rw [if_neg (by omega), if_neg (by omega), if_pos h]
      · rw [if_pos (by omega), if_neg h]
    have hs : skF a i < n := by unfold skF; split <;> omega
    have hb := hJ.1 (skF a i) (by omega)
    rw [e, hri _ (by omega), rm_j hi hk]
    exact a9 _ (by rw [nO_of h0 h12]; exact hs) k hk
theorem eqS_close (v : Int32) : eqS 1 24 m (wi (clA m 1 a n) 1 1 v) := fun q hq => ⟨by rw [ri_wn _ _ _ (by omega)]; rfl, by
  funext j
  show rp (clA m 1 a n) q j = _
  unfold clA
  rw [rp_wpa, if_neg (by omega)], rfl, rfl⟩
/-- one job's cell -/
theorem CL_job (hC : CL m 1 r) (hN : nO r ≤ 12) (ha : a < nO r) (hJ : JV m 1) {k : Nat} (hk : k < 8) {v v2 : Int32} (hv : jt k v2 = v) : CL (wi m (rp m (1 + 1) a) k v) 1 (upd r (42 + 8 * a + k) v2) := by
  obtain ⟨⟨a1, a2, a3, a4, a5⟩, a6, a7, a8, a9⟩ := hC
  have hb := hJ.1 a (by omega)
  have hri : ∀ q, q ≠ rp m (1 + 1) a → ri (wi m (rp m (1 + 1) a) k v) q = ri m q := fun q hq => ri_wn _ _ _ hq
  have hlo : ∀ x, x < 42 → upd r (42 + 8 * a + k) v2 x = r x := fun x hx => upd_n _ _ (by omega)
  have hnO : nO (upd r (42 + 8 * a + k) v2) = nO r := by unfold nO; rw [hlo 0 (by omega)]
  refine ⟨⟨by rw [hri _ (by omega), hlo _ (by omega)]; exact a1, by rw [hri _ (by omega), hlo _ (by omega)]; exact a2, by rw [hri _ (by omega), hlo _ (by omega)]; exact a3, by rw [hlo _ (by omega)]; exact a4, by rw [hlo _ (by omega)]; exact a5⟩, ?_, ?_, ?_, ?_⟩
  · intro j hj
    rw [hri _ (by omega), hlo _ (by omega)]
    exact a6 j hj
  · intro j hj
    rw [hri _ (by omega), hlo _ (by omega)]
    exact a7 j hj
  · intro w hw
    refine ⟨fun o ho => ?_, fun j hj => ?_⟩
    · rw [hri _ (by omega), hlo _ (by omega)]
      exact (a8 w hw).1 o ho
    · rw [hri _ (by omega), hlo _ (by omega)]
      exact (a8 w hw).2 j hj
  · intro i hi k2 hk2
    rw [hnO] at hi
    show ri (wi m (rp m (1 + 1) a) k v) (rp m (1 + 1) i) k2 = _
    rw [wi_at]
    by_cases e : i = a
    · subst e
      by_cases e2 : k2 = k
      · subst e2
        rw [if_pos ⟨rfl, rfl⟩, upd_s, hv]
      · rw [if_neg (fun z => e2 z.2), upd_n _ _ (by omega)]
        exact a9 i hi k2 hk2
    · rw [if_neg (fun z => e (hJ.2 _ (by omega) _ (by omega) z.1)), upd_n _ _ (by omega)]
      exact a9 i hi k2 hk2
theorem eqS_wi {q0 i : Nat} {v : Int32} (h1 : 1 ≤ q0) (h2 : q0 < 24) : eqS 1 24 m (wi m q0 i v) := fun q hq => ⟨ri_wn _ _ _ (by omega), rfl, rfl, rfl⟩
theorem JV_wi {q0 i : Nat} {v : Int32} {b : Nat} (hJ : JV m b) : JV (wi m q0 i v) b := hJ
/-- a cell of the state's rows of numbers: stock, holders, a barrow's -/
theorem CL_low (hC : CL m 1 r) (hN : nO r ≤ 12) (hJ : JV m 1) {q i x : Nat} {v v2 : Int32} (h : (q = 1 + 3 ∧ i < 4 ∧ x = 8 + i ∧ v = v2) ∨ (q = 1 + 4 ∧ i < 6 ∧ x = 12 + i ∧ v = v2 - ic 1) ∨ ∃ w, w < 3 ∧ ((q = (1 + 2 + (15 + 2 * w)) ∧ i < 4 ∧ x = 18 + 8 * w + i ∧ v = v2) ∨ (q = (1 + 2 + (15 + 2 * w)) + 1 ∧ i < 4 ∧ x = 18 + 8 * w + (4 + i) ∧ v = v2))) : CL (wi m q i v) 1 (upd r x v2) := by
  obtain ⟨⟨a1, a2, a3, a4, a5⟩, a6, a7, a8, a9⟩ := hC
  have hx : 8 ≤ x ∧ x < 42 ∧ q ≠ 1 ∧ (q < 6 ∨ 18 ≤ q) := by
    rcases h with h | h | ⟨w, hw, h | h⟩ <;> omega
  have hnO : nO (upd r x v2) = nO r := by unfold nO; rw [upd_n _ _ (by omega)]
  refine ⟨⟨by rw [ri_wn _ _ _ (by omega), upd_n _ _ (by omega)]; exact a1, by rw [ri_wn _ _ _ (by omega), upd_n _ _ (by omega)]; exact a2, by rw [ri_wn _ _ _ (by omega), upd_n _ _ (by omega)]; exact a3, by rw [upd_n _ _ (by omega)]; exact a4, by rw [upd_n _ _ (by omega)]; exact a5⟩, ?_, ?_, ?_, ?_⟩
  · intro j hj
    rw [wi_at, upd_at]
    by_cases e : 1 + 3 = q ∧ j = i
    · rw [if_pos e, if_pos (by rcases h with h | h | ⟨w, hw, h | h⟩ <;> omega)]
      rcases h with h | h | ⟨w, hw, h | h⟩
      · exact h.2.2.2
      · omega
      · omega
      · omega
    · rw [if_neg e, if_neg (by rcases h with h | h | ⟨w, hw, h | h⟩ <;> omega)]
      exact a6 j hj
  · intro j hj
    rw [wi_at, upd_at]
    by_cases e : 1 + 4 = q ∧ j = i
    · rw [if_pos e, if_pos (by rcases h with h | h | ⟨w, hw, h | h⟩ <;> omega)]
      rcases h with h | h | ⟨w, hw, h | h⟩
      · omega
      · exact h.2.2.2
      · omega
      · omega
    · rw [if_neg e, if_neg (by rcases h with h | h | ⟨w, hw, h | h⟩ <;> omega)]
      exact a7 j hj
  · intro w2 hw2
    refine ⟨fun o ho => ?_, fun j hj => ?_⟩
    · rw [wi_at, upd_at]
      by_cases e : (1 + 2 + (15 + 2 * w2)) = q ∧ o = i
      · rw [if_pos e, if_pos (by rcases h with h | h | ⟨w, hw, h | h⟩ <;> omega)]
        rcases h with h | h | ⟨w, hw, h | h⟩
        · omega
        · omega
        · exact h.2.2.2
        · omega
      · rw [if_neg e, if_neg (by rcases h with h | h | ⟨w, hw, h | h⟩ <;> omega)]
        exact (a8 w2 hw2).1 o ho
    · rw [wi_at, upd_at]
      by_cases e : (1 + 2 + (15 + 2 * w2)) + 1 = q ∧ j = i
      · rw [if_pos e, if_pos (by rcases h with h | h | ⟨w, hw, h | h⟩ <;> omega)]
        rcases h with h | h | ⟨w, hw, h | h⟩
        · omega
        · omega
        · omega
        · exact h.2.2.2
      · rw [if_neg e, if_neg (by rcases h with h | h | ⟨w, hw, h | h⟩ <;> omega)]
        exact (a8 w2 hw2).2 j hj
  · intro i2 hi k2 hk2
    rw [hnO] at hi
    have hb := hJ.1 i2 (by omega)
    show ri (wi m q i v) (rp m (1 + 1) i2) k2 = _
    rw [ri_wn _ _ _ (by omega), upd_n _ _ (by omega)]
    exact a9 i2 hi k2 hk2
end P2b
