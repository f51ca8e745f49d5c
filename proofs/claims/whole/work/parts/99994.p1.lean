/-! the relation between the class's state and the reference's row; expanded by px.py out of p1.src -/
theorem wi_at (m : mm) (k i : Nat) (v : Int32) (q j : Nat) : ri (wi m k i v) q j = if q = k ∧ j = i then v else ri m q j := by
  rw [ri_wi]
  by_cases h : q = k
  · subst h
    rw [if_pos rfl]
    show (if j = i then v else _) = _
    by_cases h2 : j = i
    · rw [if_pos h2, if_pos ⟨rfl, h2⟩]
    · rw [if_neg h2, if_neg (fun z => h2 z.2)]
  · rw [if_neg h, if_neg (fun z => h z.1)]
theorem wa_at (m : mm) (k : Nat) (f : Nat → Int32) (q j : Nat) : ri (wa m k f) q j = if q = k then f j else ri m q j := by
  rw [ri_wa]
  split <;> rfl
theorem upd_at (f : Nat → Int32) (i : Nat) (v : Int32) (j : Nat) : upd f i v j = if j = i then v else f j := rfl
theorem rng2 {x : Int32} {a n : Nat} (ha : a < 2147483648) (hn : n < 2147483648) (h1 : ¬ x < ic a) (h2 : x < ic n) : ∃ w, a ≤ w ∧ w < n ∧ x = ic w := by
  have h0 : ¬ x < ic 0 := fun q => h1 (by
    rw [Int32.lt_iff_toInt_lt, ic_toInt (show 0 < 2147483648 by decide)] at q
    rw [Int32.lt_iff_toInt_lt, ic_toInt ha]
    omega)
  obtain ⟨w, hw, rfl⟩ := rng_of hn ⟨h0, h2⟩
  rw [ic_lt (by omega) ha] at h1
  exact ⟨w, by omega, hw, rfl⟩
theorem sub1 (x y : Int32) : (x - ic 1 = y) = (x = y + ic 1) := propext Int32.sub_eq_iff_eq_add
theorem kI_ic {j : Nat} (hj : j < 4) : kI (ic (97 + j)) = ic j := by
  unfold kI
  rw [if_pos ⟨by rw [ic_lt (by omega) (by omega)]; omega, by rw [ic_lt (by omega) (by omega)]; omega⟩, ic_sub (by omega)]
  congr 1
  omega
theorem kI_no {k : Int32} (h : ¬ (¬ k < ic 97 ∧ k < ic 101)) : kI k = -ic 1 := if_neg h
theorem kI_in (k : Int32) : (¬ kI k < ic 0 ∧ kI k < ic 4) = (¬ k < ic 97 ∧ k < ic 101) := by
  apply propext
  by_cases h : (¬ k < ic 97 ∧ k < ic 101)
  · obtain ⟨w, h1, h2, rfl⟩ := rng2 (by decide) (by decide) h.1 h.2
    obtain ⟨j, rfl⟩ : ∃ j, w = 97 + j := ⟨w - 97, by omega⟩
    rw [kI_ic (by omega)]
    refine ⟨fun _ => h, fun _ => ?_⟩
    rw [ic_lt (by omega) (by omega), ic_lt (by omega) (by omega)]
    exact ⟨by omega, by omega⟩
  · rw [kI_no h]
    exact ⟨fun q => absurd (show (-ic 1 : Int32) < ic 0 by decide) q.1, fun q => absurd q h⟩
def isN (v : Int32) (B : Nat) : Prop := ∃ x, x ≤ B ∧ v = ic x
theorem isN.mono {v : Int32} {B C : Nat} (h : isN v B) (hB : B ≤ C) : isN v C := by
  obtain ⟨x, h1, h2⟩ := h
  exact ⟨x, by omega, h2⟩
def jt (k : Nat) (v : Int32) : Int32 := if k = 3 then v - ic 97 else if k = 7 then v - ic 1 else v
theorem jt_3 (v : Int32) : jt 3 v = v - ic 97 := rfl
theorem jt_7 (v : Int32) : jt 7 v = v - ic 1 := rfl
theorem jt_n {k : Nat} (v : Int32) (h : k ≠ 3) (h2 : k ≠ 7) : jt k v = v := by
  unfold jt
  rw [if_neg h, if_neg h2]
def nO (r : Nat → Int32) : Nat := (r 0).toNatClampNeg
theorem nO_of {r : Nat → Int32} {n : Nat} (h : r 0 = ic n) (hn : n ≤ 12) : nO r = n := by
  unfold nO
  rw [h, ic_nat (by omega)]
/-- the class's state at b says what the row r says -/
def CL (m : mm) (b : Nat) (r : Nat → Int32) : Prop :=
  (ri m b 1 = r 0 ∧ ri m b 2 = r 1 ∧ ri m b 6 = r 2 ∧ rl m b 8 = (r 3).toInt64 ∧ rl m b 7 = (r 4).toInt64) ∧
  (∀ j, j < 4 → ri m (b + 3) j = r (8 + j)) ∧
  (∀ j, j < 6 → ri m (b + 4) j = r (12 + j) - ic 1) ∧
  (∀ w, w < 3 → (∀ o, o < 4 → ri m ((b + 2 + (15 + 2 * w))) o = r (18 + 8 * w + o)) ∧ ∀ j, j < 4 → ri m ((b + 2 + (15 + 2 * w)) + 1) j = r (18 + 8 * w + (4 + j))) ∧
  ∀ i, i < nO r → ∀ k, k < 8 → ri m (rp m (b + 1) i) k = jt k (r (42 + 8 * i + k))
def eqS (lo hi : Nat) (m m2 : mm) : Prop := ∀ q, q < lo ∨ hi ≤ q → ri m2 q = ri m q ∧ rp m2 q = rp m q ∧ rl m2 q = rl m q ∧ rd m2 q = rd m q
theorem eqS_r (lo hi : Nat) (m : mm) : eqS lo hi m m := fun _ _ => ⟨rfl, rfl, rfl, rfl⟩
theorem eqS.trans {lo hi : Nat} {m m1 m2 : mm} (h1 : eqS lo hi m m1) (h2 : eqS lo hi m1 m2) : eqS lo hi m m2 := fun q hq => ⟨(h2 q hq).1.trans (h1 q hq).1, (h2 q hq).2.1.trans (h1 q hq).2.1, (h2 q hq).2.2.1.trans (h1 q hq).2.2.1, (h2 q hq).2.2.2.trans (h1 q hq).2.2.2⟩
theorem CL.congr {m m2 : mm} {b : Nat} {r : Nat → Int32} (hn : nO r ≤ 12) (hJ : JV m b) (h : ∀ q, b ≤ q → q < b + 23 → ri m2 q = ri m q ∧ rp m2 q = rp m q ∧ rl m2 q = rl m q) (hC : CL m b r) : CL m2 b r := by
  obtain ⟨⟨a1, a2, a3, a4, a5⟩, a6, a7, a8, a9⟩ := hC
  have e0 := h b (by omega) (by omega)
  refine ⟨⟨by rw [e0.1]; exact a1, by rw [e0.1]; exact a2, by rw [e0.1]; exact a3, by rw [e0.2.2]; exact a4, by rw [e0.2.2]; exact a5⟩, ?_, ?_, ?_, ?_⟩
  · intro j hj
    rw [(h (b + 3) (by omega) (by omega)).1]
    exact a6 j hj
  · intro j hj
    rw [(h (b + 4) (by omega) (by omega)).1]
    exact a7 j hj
  · intro w hw
    rw [(h ((b + 2 + (15 + 2 * w))) (by omega) (by omega)).1, (h ((b + 2 + (15 + 2 * w)) + 1) (by omega) (by omega)).1]
    exact a8 w hw
  · intro i hi k hk
    have hb := hJ.1 i (by omega)
    rw [(h (b + 1) (by omega) (by omega)).2.1, (h (rp m (b + 1) i) (by omega) (by omega)).1]
    exact a9 i hi k hk
theorem JV.congr {m m2 : mm} {b : Nat} (h : rp m2 (b + 1) = rp m (b + 1)) (hJ : JV m b) : JV m2 b := by
  unfold JV
  rw [h]
  exact hJ
/-- what the rows hold -/
def sOK (f : Nat → Int32) : Prop := ∀ j, j < 4 → isN (f j) 99
def hOK (f : Nat → Int32) : Prop := ∀ j, j < 6 → isN (f j) 3
def bOK (T : Nat) (f : Nat → Int32) : Prop := isN (f 0) 20 ∧ isN (f 1) 20 ∧ isN (f 2) (99 * T) ∧ ∃ P : Nat → Nat, (∀ j, j < 4 → f (4 + j) = ic (P j)) ∧ P 0 + P 1 + P 2 + P 3 ≤ 10
def eOK (f : Nat → Int32) (work late : Nat) : Prop := ∃ p q : Nat → Nat, (∀ w, w < 3 → f w = ic (10 * p w) - ic (2 * q w)) ∧ p 0 + p 1 + p 2 = work ∧ q 0 + q 1 + q 2 = late
def jOK (nx : Nat) (f : Nat → Int32) : Prop := (∃ x, x < nx ∧ f 0 = ic x) ∧ isN (f 1) 20 ∧ isN (f 2) 20 ∧ (∃ k, k < 4 ∧ f 3 = ic (97 + k)) ∧ isN (f 4) 5 ∧ (∃ k, 1 ≤ k ∧ k ≤ 4 ∧ f 5 = ic k) ∧ (∃ k, 1 ≤ k ∧ k ≤ 199 ∧ f 6 = ic k) ∧ isN (f 7) 3
def jsOK (n nx : Nat) (J : Nat → Nat → Int32) : Prop := (∀ i, i < n → jOK nx (J i)) ∧ (∀ i j, i < j → j < n → J i 0 < J j 0) ∧ ∀ w, w < 3 → cntF (fun i => J i 7 = ic (w + 1)) n ≤ 6
theorem sOK.congr {f g : Nat → Int32} (h : ∀ j, j < 4 → g j = f j) (H : sOK f) : sOK g := fun j hj => by rw [h j hj]; exact H j hj
theorem hOK.congr {f g : Nat → Int32} (h : ∀ j, j < 6 → g j = f j) (H : hOK f) : hOK g := fun j hj => by rw [h j hj]; exact H j hj
theorem bOK.congr {T T2 : Nat} {f g : Nat → Int32} (h : ∀ j, j < 8 → g j = f j) (hT : T ≤ T2) (H : bOK T f) : bOK T2 g := by
  obtain ⟨h1, h2, h3, P, h4, h5⟩ := H
  refine ⟨by rw [h 0 (by omega)]; exact h1, by rw [h 1 (by omega)]; exact h2, by rw [h 2 (by omega)]; exact h3.mono (by omega), P, fun j hj => by rw [h (4 + j) (by omega)]; exact h4 j hj, h5⟩
theorem eOK.congr {f g : Nat → Int32} {a b : Nat} (h : ∀ j, j < 3 → g j = f j) (H : eOK f a b) : eOK g a b := by
  obtain ⟨p, q, h1, h2⟩ := H
  exact ⟨p, q, fun w hw => by rw [h w hw]; exact h1 w hw, h2⟩
theorem jOK.congr {nx ny : Nat} {f g : Nat → Int32} (h : ∀ k, k < 8 → g k = f k) (hx : nx ≤ ny) (H : jOK nx f) : jOK ny g := by
  unfold jOK at H ⊢
  rw [h 0 (by omega), h 1 (by omega), h 2 (by omega), h 3 (by omega), h 4 (by omega), h 5 (by omega), h 6 (by omega), h 7 (by omega)]
  obtain ⟨⟨x, h1, h2⟩, h3⟩ := H
  exact ⟨⟨x, by omega, h2⟩, h3⟩
theorem jsOK.congr {n nx ny : Nat} {J K : Nat → Nat → Int32} (h : ∀ i, i < n → ∀ k, k < 8 → K i k = J i k) (hx : nx ≤ ny) (H : jsOK n nx J) : jsOK n ny K := by
  obtain ⟨h1, h2, h3⟩ := H
  refine ⟨fun i hi => (h1 i hi).congr (h i hi) hx, fun i j hij hj => by rw [h i (by omega) 0 (by omega), h j hj 0 (by omega)]; exact h2 i j hij hj, fun w hw => ?_⟩
  rw [cntF_congr (Q := fun i => J i 7 = ic (w + 1)) (fun i hi => by rw [h i hi 7 (by omega)])]
  exact h3 w hw
def RW (T : Nat) (r : Nat → Int32) : Prop := ∃ n nx late work, (n ≤ 12 ∧ nx ≤ T ∧ late ≤ 99 * T * T ∧ work ≤ 4 * T ∧ r 0 = ic n ∧ r 1 = ic nx ∧ isN (r 2) T ∧ r 3 = ic late ∧ r 4 = ic work) ∧ sOK (fun j => r (8 + j)) ∧ hOK (fun j => r (12 + j)) ∧ (∀ w, w < 3 → bOK T (fun o => r (18 + 8 * w + o))) ∧ eOK (fun w => r (18 + 8 * w + 3)) work late ∧ jsOK n nx (fun i k => r (42 + 8 * i + k))
theorem sqM {T T2 : Nat} (h : T ≤ T2) : 99 * T * T ≤ 99 * T2 * T2 := Nat.mul_le_mul (Nat.mul_le_mul_left _ h) h
theorem RW.mono {T T2 : Nat} {r : Nat → Int32} (h : T ≤ T2) (H : RW T r) : RW T2 r := by
  obtain ⟨n, nx, late, work, ⟨h1, h2, h3, h4, h5, h6, h7, h8, h9⟩, a1, a2, a3, a4, a5⟩ := H
  exact ⟨n, nx, late, work, ⟨h1, by omega, Nat.le_trans h3 (sqM h), by omega, h5, h6, h7.mono h, h8, h9⟩, a1, a2, fun w hw => (a3 w hw).congr (fun _ _ => rfl) h, a4, a5⟩
theorem RW.n {T : Nat} {r : Nat → Int32} (H : RW T r) : ∃ n, n ≤ 12 ∧ r 0 = ic n ∧ nO r = n := by
  obtain ⟨n, nx, late, work, ⟨h1, h2, h3, h4, h5, h6, h7, h8, h9⟩, a1, a2, a3, a4, a5⟩ := H
  exact ⟨n, h1, h5, nO_of h5 h1⟩
theorem RW.job {T : Nat} {r : Nat → Int32} (H : RW T r) {i : Nat} (hi : i < nO r) : jOK T (fun k => r (42 + 8 * i + k)) := by
  obtain ⟨n, nx, late, work, ⟨h1, h2, h3, h4, h5, h6, h7, h8, h9⟩, a1, a2, a3, a4, a5⟩ := H
  rw [nO_of h5 h1] at hi
  exact (a5.1 i hi).congr (fun _ _ => rfl) h2
theorem RW.bar {T : Nat} {r : Nat → Int32} (H : RW T r) {w : Nat} (hw : w < 3) : bOK T (fun o => r (18 + 8 * w + o)) := by
  obtain ⟨n, nx, late, work, _, a1, a2, a3, a4, a5⟩ := H
  exact a3 w hw
theorem RW.st {T : Nat} {r : Nat → Int32} (H : RW T r) {j : Nat} (hj : j < 4) : isN (r (8 + j)) 99 := by
  obtain ⟨n, nx, late, work, _, a1, a2, a3, a4, a5⟩ := H
  exact a1 j hj
theorem RW.ho {T : Nat} {r : Nat → Int32} (H : RW T r) {j : Nat} (hj : j < 6) : isN (r (12 + j)) 3 := by
  obtain ⟨n, nx, late, work, _, a1, a2, a3, a4, a5⟩ := H
  exact a2 j hj
/-- the row's order: an open job -/
abbrev fO (r : Nat → Int32) (job : Int32) : Option Nat := fdF r (nO r) job
theorem fO_lt {r : Nat → Int32} {job : Int32} {a : Nat} (h : fO r job = some a) : a < nO r ∧ r (42 + 8 * a) = job := by
  have := fndA_lt _ _ _ h
  exact ⟨by omega, this.2.2⟩
theorem fndA_congr {P Q : Nat → Prop} [DecidablePred P] [DecidablePred Q] : ∀ (k i : Nat), (∀ j, i ≤ j → j < i + k → (P j ↔ Q j)) → fndA P i k = fndA Q i k := by
  intro k
  induction k with
  | zero => intro i h; rfl
  | succ k ih =>
    intro i h
    unfold fndA
    have e := h i (by omega) (by omega)
    rw [ih (i + 1) (fun j h1 h2 => h j (by omega) (by omega))]
    by_cases hP : P i
    · rw [if_pos hP, if_pos (e.mp hP)]
    · rw [if_neg hP, if_neg (fun z => hP (e.mpr z))]
section P1
variable {m : mm} {b T : Nat} {r : Nat → Int32}
theorem CL.find (hC : CL m b r) {job : Int32} : fndA (fun i => ri m (rp m (b + 1) i) 0 = job) 0 (nO r) = fO r job := fndA_congr _ _ (fun j _ h2 => by
  have := hC.2.2.2.2 j (by omega) 0 (by omega)
  rw [this, jt_n _ (by decide) (by decide)]
  rfl)
theorem CL.asg (hC : CL m b r) {w : Int32} : cntF (fun i => ri m (rp m (b + 1) i) 7 = w) (nO r) = cntF (fun i => r (42 + 8 * i + 7) = w + ic 1) (nO r) := cntF_congr (fun i hi => by
  have := hC.2.2.2.2 i hi 7 (by omega)
  rw [this, jt_7, sub1])
theorem CL.tls (hC : CL m b r) {w : Int32} : cntF (fun i => ri m (b + 4) i = w) 6 = cntF (fun i => r (12 + i) = w + ic 1) 6 := cntF_congr (fun i hi => by
  rw [hC.2.2.1 i hi, sub1])
end P1
